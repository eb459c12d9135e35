section
/-! ===== an event made: both sides ===== -/
def WC (K : zK) (Km : Nat) (N q v w bar : Int) (B : zB) (Fm : zF) (Bm : zB) : Prop := 3002 ≤ K.1 ∧ 812851200 < Km ∧ 0 < K.2 11 ∧ 0 < K.2 3 ∧ (0 ≤ q ∧ q < K.2 4) ∧ (0 ≤ v ∧ v < 4) ∧ (0 ≤ w ∧ w < 3) ∧ TK B Bm N ∧ (∀ t, 0 ≤ t → t < 200 → 0 ≤ B 4 q 5 t ∧ B 4 q 5 t < K.2 1) ∧ inJ q B ∧ (r32 (Fm 13 w 4) ∧ r32 (Fm 13 w 5) ∧ FR (100 * Fm 13 w 4) (Fm 13 w 5) (100 * bar) ∧ 100 * bar ≤ 1000000000000 ∧ (1 ≤ Fm 13 w 4 ∧ Fm 13 w 4 ≤ 12) ∧ (1 ≤ Fm 13 w 5 ∧ Fm 13 w 5 ≤ 16) ∧ 0 < bar)
theorem WE_at {D : Nat} {q v w bar s i : Int} {F : zF} {B : zB} {Fm G : zF} {Bm : zB} (h : WS q v w bar D F B Fm Bm) (hD : D ≤ 64) (s0 : 1 ≤ s) (s1 : s ≤ 15) (hp : 0 ≤ Bm 14 0 8 i ∧ Bm 14 0 8 i ≤ 3000) (hG : ∀ k, ¬ k ≤ 1 → G 14 0 k = Fm 14 0 k) : WE D q v w (zup3 F 11 0 2 (s + 16 * Bm 14 0 8 i)) (flM G Bm s i) := by
  obtain ⟨⟨a1, a2, a3, a4⟩, ⟨b1, b2, b3, b4⟩, ⟨c1, c2, c3⟩, d, e, f, g, h, k, l, m, n, ⟨o1, o2, o3, o4⟩⟩ := h
  refine ⟨?_, ?_, ?_, flM_b s0 s1, ?_, ?_, ?_, ?_, ?_, ?_⟩
  · rw [zup3_v, if_neg (by decide)]; exact a1
  · rw [zup3_v, if_neg (by decide)]; exact a2
  · rw [zup3_v, if_pos (by decide), flM_17, flM_18]
  · rw [flM_18]; exact hp
  · rw [flM_n (by decide), hG 35 (by decide)]; exact b1
  · rw [flM_n (by decide), hG 6 (by decide)]; exact b2
  · rw [zup3_v, if_neg (by first | decide | omega)]; omega
  · rw [flM_n (by decide), hG 36 (by decide)]; omega
  · rw [zup3_v, if_neg (by decide)]; omega
theorem WFR_at {q v w s i x : Int} {F : zF} {B : zB} {Fm G : zF} {Bm : zB} (hG : ∀ c y k, ¬ (c = 14 ∧ y = 0 ∧ k ≤ 1) → G c y k = Fm c y k) : WFR q v w F B Fm Bm (zup3 F 11 0 2 x) B (flM G Bm s i) Bm := by
  refine ⟨fun c y k a b d => by rw [zup3_v, if_neg (by first | decide | omega)], fun _ _ _ _ _ _ _ => rfl, fun _ => Iff.rfl, fun c i k a => ?_, fun _ _ _ _ _ _ => rfl, fun h => ⟨h, fun c => ⟨by rw [zup3_v, if_neg (by first | decide | omega)]; exact c, SD_c (by rw [zup3_v, if_neg (by first | decide | omega)]) (by rw [zup3_v, if_neg (by first | decide | omega)]) c (fun j _ _ => by rw [zup3_v, if_neg (by first | decide | omega)])⟩⟩⟩
  rw [flM_n (by first | decide | omega), hG c i k (by first | decide | omega)]
theorem P_event {K : zK} {Km : Nat} {N q v w bar x i : Int} {D : Nat} {F : zF} {B : zB} {Fm : zF} {Bm : zB} (hC : WC K Km N q v w bar B Fm Bm) (hS : WS q v w bar D F B Fm Bm) (hD : D ≤ 64) (hx : 0 ≤ x ∧ x < 3000) (hi : 0 ≤ i ∧ i < N) (hpl : B 3 0 1 x = Bm 14 0 8 i) (hev : evR B Bm x i) : zP (f_Walker_makeEvent K 0 x F B) (f_M_event_0 Km i Fm Bm) (fun _ F' B' _ Fm' Bm' => WO q v w bar D F B Fm Bm F' B' Fm' Bm') := by
  have hS' := hS
  obtain ⟨hK, hKm, h11, h3, h4, v0, w0, ⟨N0, N1, hT⟩, hV, hI, r4, r5, hB, fB⟩ := hC
  obtain ⟨⟨a1, a2, a3, a4⟩, ⟨b1, b2, b3, b4⟩, ⟨c1, c2, c3⟩, ⟨d1, d2, d3⟩, ⟨e1, e2, e3⟩, ⟨f1, f2, f3⟩, ⟨g1, g2, g3⟩, hh, hk, ⟨l1, l2, l3, l4⟩, hm, ⟨n1, n2, n3, n4⟩, ⟨o1, o2, o3, o4⟩⟩ := hS
  obtain ⟨v1, v2, v3, v4, v5, v6, v7⟩ := hev
  have pl : ∀ t, 0 ≤ t → t ≤ N → 0 ≤ Bm 14 0 8 t ∧ Bm 14 0 8 t ≤ 3000 := fun t p r => (hT t p r).2.2.2.2.2.2.2.2.2.1
  have pli := pl i hi.1 (by first | decide | omega)
  have m0 := hm 0 (by decide) (by decide)
  have m1 := hm 1 (by decide) (by decide)
  have m2 := hm 2 (by decide) (by decide)
  have m3 := hm 3 (by decide) (by decide)
  rw [show prN 0 = 2 by decide] at m0
  rw [show prN 1 = 3 by decide] at m1
  rw [show prN 2 = 5 by decide] at m2
  rw [show prN 3 = 7 by decide] at m3
  have hc := C_slowed (K := K) (F := F) (B := B) v1 v2 v3 h11 (by first | decide | omega) (fun k p r => by have := hm k p r; omega)
  have hl := L_valueOf (K := Km) (F := Fm) (B := Bm) (i := i) (by first | decide | omega) rfl rfl v2 v3 (fun k p => by rcases p with rfl | rfl | rfl | rfl <;> omega) (by first | decide | omega)
  rw [← m0.1, ← m1.1, ← m2.1, ← m3.1] at hl
  generalize hU : slV (B 11 0 14 0 + 7 - Bm 14 0 33 i - lg2 (Bm 14 0 32 i)) (B 11 0 14 1 + if Bm 14 0 33 i = 1 then 1 else 0) (B 11 0 14 2) (B 11 0 14 3 + if Bm 14 0 33 i = 2 then 1 else 0) = U at hc hl
  have ub : U = -1 ∨ (1 ≤ U ∧ U ≤ 1024) := by rw [← hU]; exact slV_b
  clear hU
  have kd : ∃ s0 cnt, ((Bm 14 0 7 i = 2 ∧ s0 = i ∧ cnt = 1) ∨ (Bm 14 0 7 i = 4 ∧ s0 = i + 1 ∧ cnt = -1) ∨ (Bm 14 0 7 i = 5 ∧ s0 = i + 1 ∧ (0 ≤ cnt ∧ s0 + cnt ≤ 3000) ∧ (∀ k, s0 ≤ k → k < s0 + cnt → Bm 14 0 7 k = 2) ∧ ¬ Bm 14 0 7 (s0 + cnt) = 2 ∧ r32 (Bm 14 0 7 (s0 + cnt)))) ∧ (cnt = B 3 0 6 x ∨ (cnt = -1 ∧ B 3 0 6 x = 0)) ∧ (0 ≤ B 3 0 6 x ∧ B 3 0 6 x ≤ 6) ∧ (0 ≤ s0 ∧ s0 + B 3 0 6 x ≤ N) ∧ pitR B Bm (B 3 0 3 x) s0 (B 3 0 6 x) := by
    rcases v7 with ⟨⟨p1, _⟩, p2⟩ | ⟨p1, p2⟩ | ⟨⟨p1, _⟩, p2, p3, p4⟩
    · exact ⟨i + 1, -1, Or.inr (Or.inl ⟨p1, rfl, rfl⟩), Or.inr ⟨rfl, p2⟩, (by first | decide | omega), (by first | decide | omega), fun k u t => (by first | decide | omega)⟩
    · have := (p2 0 (by decide) (by decide)).2.2.2
      rw [Int.add_zero] at this
      exact ⟨i, 1, Or.inl ⟨this, rfl, rfl⟩, Or.inl p1.symm, (by first | decide | omega), (by first | decide | omega), by rw [p1]; exact p2⟩
    · have k2 : ∀ k, i + 1 ≤ k → k < i + 1 + B 3 0 6 x → Bm 14 0 7 k = 2 := fun k u t => by
        have := (p3 (k - (i + 1)) (by first | decide | omega) (by first | decide | omega)).2.2.2
        rwa [show i + 1 + (k - (i + 1)) = k by omega] at this
      have kN : i + 1 + B 3 0 6 x ≤ N := by
        rcases Int.lt_or_le N (i + 1 + B 3 0 6 x) with z | z
        · have y1 := k2 N (by first | decide | omega) z
          have y2 := (hT N N0 (Int.le_refl _)).2.2.2.1.mpr rfl
          omega
        · exact z
      have kr := (hT (i + 1 + B 3 0 6 x) (by first | decide | omega) kN).2.2.1
      exact ⟨i + 1, B 3 0 6 x, Or.inr (Or.inr ⟨p1, rfl, (by first | decide | omega), k2, p4, by unfold r32; omega⟩), Or.inl rfl, (by first | decide | omega), (by first | decide | omega), p3⟩
  obtain ⟨s0, cnt, kd1, kd2, kd3, kd4, kd5⟩ := kd
  have hz : F 11 0 6 ≤ 2 → ∃ z, 6350400 = F 11 0 9 * z ∧ 1 ≤ z ∧ z ≤ 6350400 := fun h => TPL_d hk f2 h
  obtain ⟨z, hz⟩ : ∃ z, F 11 0 6 ≤ 2 → 6350400 = F 11 0 9 * z ∧ 1 ≤ z ∧ z ≤ 6350400 := by
    by_cases h : F 11 0 6 ≤ 2
    · obtain ⟨z, hz⟩ := hz h
      exact ⟨z, fun _ => hz⟩
    · exact ⟨0, fun y => absurd y h⟩
  have hk' := hk
  obtain ⟨_, t1, t2, _⟩ := hk'
  rw [L_evE (u := U) (z := z) (come := F 11 0 11) (far := 100 * bar) (m := F 4 q 6) (cnt := cnt) hKm (by first | decide | omega) a4 hl ub f1.symm (by first | decide | omega) hk hz l1 l2 (by first | decide | omega) o1.symm (by first | decide | omega) b1 v0 b2 w0 r4 r5 hB (by first | decide | omega) kd1]
  by_cases q1 : 2 < F 11 0 6 ∨ U = -1
  · rw [if_pos q1]
    have e : f_Walker_makeEvent K 0 x F B = some (0, zup3 F 11 0 2 (12 + 16 * Bm 14 0 8 i), B) := by
      unfold f_Walker_makeEvent
      rw [if_pos ⟨Int.le_refl _, h11⟩, a1, if_pos ⟨Int.le_refl _, h3⟩, if_pos hx, if_pos (by unfold r32; omega)]
      by_cases b2 : F 11 0 6 ≤ 2
      · have un : U = -1 := by omega
        rw [if_pos b2, hc, zb_s, un, C35a h11 a3, hpl]
      · rw [if_neg b2, C35a h11 a3, hpl]
    rw [e]
    exact zP_s ⟨WFR_at (fun _ _ _ _ => rfl), Or.inr (WE_at hS' hD (by decide) (by decide) pli (fun _ _ => rfl))⟩
  rw [if_neg q1]
  have u1 : 1 ≤ U ∧ U ≤ 1024 := ub.resolve_left (fun h => q1 (Or.inr h))
  obtain ⟨hz1, hz2⟩ := hz (by first | decide | omega)
  have c35 := C35b (K := K) (F := F) (B := B) (x := x) (pl := Bm 14 0 8 i) (u := U) (q := q) (e := B 4 q 5 (F 4 q 6)) (z := z) h11 h3 h4 hx a1 a2 a3 rfl (by first | decide | omega) rfl (by first | decide | omega) rfl t1 rfl t2 hz1 hz2 u1 rfl (by first | decide | omega) b4 (by first | decide | omega) (fun h => ⟨rfl, hV _ (by first | decide | omega) h⟩)
  have ce : f_Walker_makeEvent K 0 x F B = f_Walker_makeEvent_35 K (Bm 14 0 8 i) 0 x U F B := by
    unfold f_Walker_makeEvent
    rw [if_pos ⟨Int.le_refl _, h11⟩, a1, if_pos ⟨Int.le_refl _, h3⟩, if_pos hx, if_pos (by unfold r32; omega), if_pos (by first | decide | omega), hc, zb_s, hpl]
  rw [ce, c35]
  have zu : 1 ≤ z * U := ml_1 hz2.1 u1.1
  have zu2 : z * U ≤ 6350400 * 1024 := Int.mul_le_mul hz2.2 u1.2 (Int.le_trans (by decide) u1.1) (by decide)
  have zt : 1 ≤ z * U * F 11 0 10 := ml_1 zu t2.1
  have zt2 : z * U * F 11 0 10 ≤ 6350400 * 1024 * 81 := Int.mul_le_mul zu2 t2.2 (by first | decide | omega) (by decide)
  by_cases q2 : 200 ≤ F 4 q 6 ∨ 100 * bar < F 11 0 11 + z * U * F 11 0 10
  · rw [if_pos q2, if_pos q2]
    exact zP_s ⟨WFR_at (fun c y k n => by rw [fr_n n, fr_n n]), Or.inr (WE_at hS' hD (by decide) (by decide) pli (fun k n => by rw [fr_n (by first | decide | omega), fr_n (by first | decide | omega)]))⟩
  rw [if_neg q2, if_neg q2]
  generalize hlen : z * U * F 11 0 10 = len at zt zt2 q2 ⊢
  generalize hm' : F 4 q 6 = m at o1 o2 o3 o4 q2 ⊢
  generalize hE : B 4 q 5 m = e
  have he := hV m (by first | decide | omega) (by first | decide | omega)
  rw [hE] at he
  generalize hF2 : evF e len U (F 11 0 9) (F 11 0 10) (if F 11 0 6 = 0 then 0 else F 11 0 7) (F 11 0 8) (B 3 0 7 x) (F 11 0 4) (Bm 14 0 8 i) F = F2
  generalize hG2 : fr (fr Fm len) (F 11 0 11 + len) = G2
  generalize hM2 : zup4 Bm 13 w 21 (1000 * v + m) 0 = M2
  have fn : ∀ c y k, ¬ (c = 1 ∧ y = e) → F2 c y k = F c y k := fun c y k n => by rw [← hF2, evF_n (fun u => n ⟨u.1, u.2.1⟩)]
  have gn : ∀ c y k, ¬ (c = 14 ∧ y = 0 ∧ k ≤ 1) → G2 c y k = Fm c y k := fun c y k n => by rw [← hG2, fr_n n, fr_n n]
  have mn : ∀ c y k t, ¬ (c = 13 ∧ y = w ∧ k = 21 ∧ t = 1000 * v + m) → M2 c y k t = Bm c y k t := fun c y k t n => by rw [← hM2, zup4_v, if_neg n]
  have ev := evF_v (e := e) (len := len) (u := U) (tf := F 11 0 9) (ts := F 11 0 10) (br := if F 11 0 6 = 0 then 0 else F 11 0 7) (bp := F 11 0 8) (mk := B 3 0 7 x) (ld := F 11 0 4) (tok := Bm 14 0 8 i) (F := F)
  rw [hF2] at ev
  have E0 : EPR e (1000 * v + m) w 0 F2 B M2 := ⟨ev.2.2.2.2.2.2.2.2.2, by rw [← hM2, zup4_v, if_pos (by first | decide | omega)], (by first | decide | omega), fun k u t => (by first | decide | omega), fun j k u t s => (by first | decide | omega)⟩
  have PH : PLH x s0 (B 3 0 6 x) (B 3 0 3 x) (F 11 0 18).toNat F2 B M2 := by
    refine ⟨by rw [fn _ _ _ (by first | decide | omega)]; exact a1, by rw [fn _ _ _ (by first | decide | omega)]; exact a3, by rw [fn _ _ _ (by first | decide | omega)]; omega, rfl, rfl, fun k u t => ?_, fun t u s => ?_⟩
    · have := n4 k (by first | decide | omega) (by first | decide | omega)
      unfold CRk at this ⊢
      rw [mn _ _ _ _ (by first | decide | omega), mn _ _ _ _ (by first | decide | omega), mn _ _ _ _ (by first | decide | omega)]
      exact this
    · obtain ⟨y1, y2, y3, y4⟩ := kd5 t u s
      have y5 := (hT (s0 + t) (by first | decide | omega) (by first | decide | omega)).2.2.2.2.1 y4
      rw [mn _ _ _ _ (by first | decide | omega), mn _ _ _ _ (by first | decide | omega), mn _ _ _ _ (by first | decide | omega)]
      exact ⟨y1, y2, y3, (by first | decide | omega), (by first | decide | omega)⟩
  have own : ownE B q e := ⟨m, (by first | decide | omega), (by first | decide | omega), hE⟩
  have frm : ∀ F' B' Bm' X G C, lFr e (1000 * v + m) w F2 B M2 F' B' Bm' → (∀ c y k, ¬ (c = 11 ∧ y = 0) → ¬ (c = 4 ∧ y = q ∧ k = 6) → X c y k = F' c y k) → (∀ c y k, ¬ (c = 14 ∧ y = 0 ∧ (k ≤ 1 ∨ k = 17 ∨ k = 18 ∨ (36 ≤ k ∧ k ≤ 50))) → G c y k = Fm c y k) → (∀ c y k t, ¬ (c = 13 ∧ y = w ∧ t = 1000 * v + m ∧ 16 ≤ k ∧ k ≤ 26) → C c y k t = Bm' c y k t) → X 11 0 11 = F 11 0 11 + len → X 4 q 6 = m + 1 → WFR q v w F B Fm Bm X B' G C := by
    intro F' B' Bm' X G C hf hX hG hC hX11 hX6
    refine ⟨fun c y k s t u => ?_, fun c y k t s p r => ?_, fun y => ?_, hG, fun c y k t s u => ?_, fun h => ⟨fun t t' p r p' r' s => ?_, fun cb => ⟨(by first | decide | omega), ?_⟩⟩⟩
    · have ne : ¬ (c = 1 ∧ y = e) := fun p => u ⟨p.1, by rw [p.2]; exact own⟩
      rw [hX c y k s t, hf.1 c y k (fun p => ne ⟨p.1, p.2.1⟩) (fun p => s ⟨p.1, p.2.1⟩), fn c y k ne]
    · have ne : ¬ (c = 1 ∧ y = e) := fun p => r ⟨p.1, by rw [p.2]; exact own⟩
      exact hf.2.1 c y k t (fun p => ne ⟨p.1, p.2.1⟩)
    · unfold ownE
      constructor
      · intro ⟨j, j0, j1, j2⟩
        exact ⟨j, j0, j1, by rw [← j2, hf.2.1 4 q 5 j (by first | decide | omega)]⟩
      · intro ⟨j, j0, j1, j2⟩
        exact ⟨j, j0, j1, by rw [← j2, hf.2.1 4 q 5 j (by first | decide | omega)]⟩
    · unfold inV at u
      rw [hC c y k t (by first | decide | omega), hf.2.2 c y k t (by first | decide | omega), mn c y k t (by first | decide | omega)]
    · rw [hf.2.1 4 q 5 t (by first | decide | omega), hf.2.1 4 q 5 t' (by first | decide | omega)] at s
      exact h t t' p r p' r' s
    · unfold SD
      rw [hX11, hX6, hm']
      obtain ⟨mn', hmn⟩ : ∃ k : Nat, m = k := ⟨m.toNat, (by first | decide | omega)⟩
      rw [show (m + 1).toNat = mn' + 1 by omega, show m.toNat = mn' by omega, sumZ]
      have e1 : X 1 (B' 4 q 5 (mn' : Int)) 1 = len := by
        rw [← hmn, hf.2.1 4 q 5 m (by first | decide | omega), hE, hX 1 e 1 (by first | decide | omega) (by first | decide | omega), hf.1 1 e 1 (by first | decide | omega) (by first | decide | omega), ev.1]
      have e2 : sumZ (fun j => X 1 (B' 4 q 5 j) 1) mn' = sumZ (fun j => F 1 (B 4 q 5 j) 1) mn' := sumZ_c (fun j a b => by
        have ne : ¬ B 4 q 5 j = e := fun y => by
          have := h j m (by first | decide | omega) (by first | decide | omega) (by first | decide | omega) (by first | decide | omega) (by rw [y, hE])
          omega
        rw [hf.2.1 4 q 5 j (by first | decide | omega), hX 1 _ 1 (by first | decide | omega) (by first | decide | omega), hf.1 1 _ 1 (fun u => ne u.2.1) (by first | decide | omega), fn 1 _ 1 (fun u => ne u.2)])
      rw [e2]
      show F 11 0 11 + len - (_ + X 1 (B' 4 q 5 (mn' : Int)) 1) = _
      rw [e1]
      omega
  have okC : ∀ F' B' Bm', lFr e (1000 * v + m) w F2 B M2 F' B' Bm' → F' 11 0 2 = 0 → EPR e (1000 * v + m) w (B 3 0 6 x) F' B' Bm' → zP (f_Walker_makeEvent_273 K len 0 F' B') (f_M_event_0_277 Km (1000 * v + m) (de len) (nu len) (F 11 0 9) (F 11 0 10) i G2 Bm') (fun _ F' B' _ Fm' Bm' => WO q v w bar D F B Fm Bm F' B' Fm' Bm') := by
    intro F' B' Bm' hf h2 hEP
    have fF : ∀ (c : Nat) y k, ¬ c = 1 → ¬ (c = 11 ∧ y = 0 ∧ k = 2) → F' c y k = F c y k := fun c y k n n' => by rw [hf.1 c y k (fun u => n u.1) n', fn c y k (fun u => n u.1)]
    have fm : ∀ (c : Nat) y k t, ¬ c = 13 → Bm' c y k t = Bm c y k t := fun c y k t n => by rw [hf.2.2 c y k t (fun u => n u.1), mn c y k t (fun u => n u.1)]
    rw [C273 (q := q) h11 h4 (by rw [fF 11 0 1 (by decide) (by first | decide | omega)]; exact a2), L277 (come := F 11 0 11) (w := w) hKm (by rw [gn _ _ _ (by first | decide | omega)]; exact a4) (by rw [gn _ _ _ (by first | decide | omega)]; exact l1) (by rw [gn _ _ _ (by first | decide | omega)]; exact l2) (by first | decide | omega) (by first | decide | omega) (by rw [gn _ _ _ (by first | decide | omega)]; exact b2) w0 (by first | decide | omega) (by first | decide | omega) (by rw [gn _ _ _ (by first | decide | omega), ← f1]; omega), fF 4 q 6 (by decide) (by first | decide | omega), fF 11 0 11 (by decide) (by first | decide | omega), hm', gn 14 0 40 (by first | decide | omega), gn 14 0 48 (by first | decide | omega), gn 14 0 50 (by first | decide | omega), gn 14 0 49 (by first | decide | omega), fm 14 0 34 i (by decide)]
    generalize hX : zup3 (zup3 F' 4 q 6 (m + 1)) 11 0 11 (F 11 0 11 + len) = X
    generalize hY : evG (F 11 0 11 + len) G2 = Y
    generalize hZ : evB w (1000 * v + m) (nu len) (de len) (Bm 14 0 34 i) (Fm 14 0 40) i (Fm 14 0 48) (F 11 0 10) (F 11 0 9) (if Fm 14 0 48 ≤ 0 then 0 else Fm 14 0 50) (Fm 14 0 49) Bm' = Z
    have xn : ∀ (c : Nat) y k, ¬ c = 1 → ¬ (c = 11 ∧ y = 0 ∧ (k = 2 ∨ k = 11)) → ¬ (c = 4 ∧ y = q ∧ k = 6) → X c y k = F c y k := fun c y k n n' n'' => by rw [← hX, zup3_v, if_neg (by first | decide | omega), zup3_v, if_neg (by first | decide | omega), fF c y k n (by first | decide | omega)]
    have x1 : ∀ y k, X 1 y k = F' 1 y k := fun y k => by rw [← hX, zup3_v, if_neg (by first | decide | omega), zup3_v, if_neg (by first | decide | omega)]
    have x2 : X 11 0 2 = 0 := by rw [← hX, zup3_v, if_neg (by first | decide | omega), zup3_v, if_neg (by first | decide | omega)]; exact h2
    have x11 : X 11 0 11 = F 11 0 11 + len := by rw [← hX, zup3_v, if_pos (by decide)]
    have x6 : X 4 q 6 = m + 1 := by rw [← hX, zup3_v, if_neg (by first | decide | omega), zup3_v, if_pos (by first | decide | omega)]
    have yn : ∀ c y k, ¬ (c = 14 ∧ y = 0 ∧ (k ≤ 1 ∨ k = 36 ∨ k = 38 ∨ k = 39)) → Y c y k = Fm c y k := fun c y k n => by rw [← hY, evG_n n, gn c y k (by first | decide | omega)]
    have yv := evG_v (p := F 11 0 11 + len) (F := G2)
    rw [hY, gn 14 0 36 (by first | decide | omega), ← o1] at yv
    have zn : ∀ c y k t, ¬ (c = 13 ∧ y = w ∧ t = 1000 * v + m ∧ 16 ≤ k ∧ k ≤ 26 ∧ ¬ k = 21) → Z c y k t = Bm' c y k t := fun c y k t n => by rw [← hZ, evB_n (fun u => n ⟨u.1, u.2.1, u.2.2.1, u.2.2.2⟩)]
    have zv := evB_v (w := w) (x := 1000 * v + m) (a := nu len) (b := de len) (mk := Bm 14 0 34 i) (ld := Fm 14 0 40) (tk := i) (ins := Fm 14 0 48) (up := F 11 0 10) (dn := F 11 0 9) (out := if Fm 14 0 48 ≤ 0 then 0 else Fm 14 0 50) (ot := Fm 14 0 49) (B := Bm')
    rw [hZ] at zv
    have z14 : ∀ k t, Z 14 0 k t = Bm 14 0 k t := fun k t => by rw [zn _ _ _ _ (by first | decide | omega), fm _ _ _ _ (by decide)]
    have b' : ∀ (c : Nat) y k t, ¬ c = 1 → B' c y k t = B c y k t := fun c y k t n => hf.2.1 c y k t (fun u => n u.1)
    refine zP_s ⟨frm F' B' Bm' X Y Z hf (fun c y k n n' => by rw [← hX, zup3_v, if_neg (by first | decide | omega), zup3_v, if_neg (by first | decide | omega)]) (fun c y k n => yn c y k (by first | decide | omega)) (fun c y k t n => zn c y k t (by first | decide | omega)) x11 x6, Or.inl ⟨?_, ?_⟩⟩
    · refine ⟨⟨by rw [xn _ _ _ (by decide) (by first | decide | omega) (by first | decide | omega)]; exact a1, by rw [xn _ _ _ (by decide) (by first | decide | omega) (by first | decide | omega)]; exact a2, x2, by rw [yn _ _ _ (by first | decide | omega)]; exact a4⟩, ⟨by rw [yn _ _ _ (by first | decide | omega)]; exact b1, by rw [yn _ _ _ (by first | decide | omega)]; exact b2, by rw [xn _ _ _ (by decide) (by first | decide | omega) (by first | decide | omega)]; exact b3, by rw [xn _ _ _ (by decide) (by first | decide | omega) (by first | decide | omega)]; exact b4⟩, ?_, ?_, ?_, ?_, ?_, ?_, ?_, ?_, ?_, ?_, ?_⟩
      · rw [xn _ _ _ (by decide) (by first | decide | omega) (by first | decide | omega), yn _ _ _ (by first | decide | omega)]; exact ⟨c1, c2, c3⟩
      · rw [xn _ _ _ (by decide) (by first | decide | omega) (by first | decide | omega), yn _ _ _ (by first | decide | omega)]; exact ⟨d1, d2, d3⟩
      · rw [xn _ _ _ (by decide) (by first | decide | omega) (by first | decide | omega), yn _ _ _ (by first | decide | omega)]; exact ⟨e1, e2, e3⟩
      · rw [xn _ _ _ (by decide) (by first | decide | omega) (by first | decide | omega), yn _ _ _ (by first | decide | omega)]; exact ⟨f1, f2, f3⟩
      · rw [xn 11 0 7 (by decide) (by first | decide | omega) (by first | decide | omega), xn 11 0 3 (by decide) (by first | decide | omega) (by first | decide | omega), yn _ _ _ (by first | decide | omega)]; exact ⟨g1, g2, g3⟩
      · rw [xn 11 0 6 (by decide) (by first | decide | omega) (by first | decide | omega), xn 11 0 7 (by decide) (by first | decide | omega) (by first | decide | omega), xn 11 0 8 (by decide) (by first | decide | omega) (by first | decide | omega), yn _ _ _ (by first | decide | omega), z14]; exact hh
      · rw [xn 11 0 6 (by decide) (by first | decide | omega) (by first | decide | omega), xn 11 0 9 (by decide) (by first | decide | omega) (by first | decide | omega), xn 11 0 10 (by decide) (by first | decide | omega) (by first | decide | omega)]
        unfold TPL at hk ⊢
        simp only [z14]
        exact hk
      · rw [x11]
        exact ⟨yv.2.1, yv.2.2, (by first | decide | omega), (by first | decide | omega)⟩
      · intro k u t
        rw [b' _ _ _ _ (by decide), z14]
        exact hm k u t
      · rw [xn _ _ _ (by decide) (by first | decide | omega) (by first | decide | omega), yn _ _ _ (by first | decide | omega)]
        refine ⟨n1, n2, n3, fun k u t => ?_⟩
        have := n4 k u t
        unfold CRk at this ⊢
        rw [b' 11 _ _ _ (by decide), b' 11 _ _ _ (by decide), b' 11 _ _ _ (by decide), z14, z14, z14]
        exact this
      · rw [x6]
        refine ⟨yv.1.symm, (by first | decide | omega), (by first | decide | omega), fun j j0 j1 => ?_⟩
        rw [b' 4 q 5 j (by decide)]
        by_cases jm : j = m
        · subst jm
          rw [hE]
          have w1 : ∀ k, ¬ k = 10 → X 1 e k = F2 1 e k := fun k n => by rw [x1, hf.1 1 e k (by first | decide | omega) (by first | decide | omega)]
          unfold EVW
          obtain ⟨E1, E2, E3, E4, E5⟩ := hEP
          rw [w1 1 (by decide), w1 2 (by decide), w1 3 (by decide), w1 4 (by decide), w1 5 (by decide), w1 6 (by decide), w1 7 (by decide), w1 8 (by decide), w1 9 (by decide), ev.1, ev.2.1, ev.2.2.1, ev.2.2.2.1, ev.2.2.2.2.1, ev.2.2.2.2.2.1, ev.2.2.2.2.2.2.1, ev.2.2.2.2.2.2.2.1, ev.2.2.2.2.2.2.2.2.1, zv.1, zv.2.1, zv.2.2.1, zv.2.2.2.1, zv.2.2.2.2.1, zv.2.2.2.2.2.1, zv.2.2.2.2.2.2.1, zv.2.2.2.2.2.2.2.1, zv.2.2.2.2.2.2.2.2.1, zv.2.2.2.2.2.2.2.2.2, z14, z14, x1]
          have bb : (if F 11 0 6 = 0 then (0 : Int) else F 11 0 7) = (if Fm 14 0 48 ≤ 0 then 0 else Fm 14 0 50) := by
            by_cases c : F 11 0 6 = 0
            · rw [if_pos c, if_pos (by first | decide | omega)]
            · rw [if_neg c, if_neg (by first | decide | omega), g1]
          have b7 : 0 < F 11 0 6 → 1 ≤ F 11 0 7 := fun h => (hh h).1
          refine ⟨u1, ⟨rfl, t1.1, t1.2⟩, ⟨rfl, t2.1, t2.2⟩, ⟨z, hz1, hlen.symm⟩, ⟨rfl, rfl, zt, (by first | decide | omega)⟩, ⟨bb, ?_, ?_⟩, ⟨(by first | decide | omega), (by first | decide | omega), ?_, ?_⟩, ?_, ⟨v4, v5⟩, ⟨d1, d2, d3⟩, ⟨rfl, (by first | decide | omega), (by first | decide | omega), pli.1, pli.2⟩, ⟨x1 e 10, ?_, (by first | decide | omega), ?_, ?_⟩⟩
          · split <;> omega
          · split <;> omega
          · by_cases c : F 11 0 6 = 0
            · rw [if_pos c]; omega
            · rw [if_neg c]
              have := b7 (by first | decide | omega)
              omega
          · intro u
            by_cases c : F 11 0 6 = 0
            · exact hk.2.2.2.1 c
            · rw [if_neg c] at u
              have := b7 (by first | decide | omega)
              omega
          · intro u
            by_cases c : F 11 0 6 = 0
            · rw [if_pos c] at u; omega
            · exact (hh (by first | decide | omega)).2
          · rw [zn _ _ _ _ (by first | decide | omega), E2, E1]
          · intro k u s
            rw [zn _ _ _ _ (by first | decide | omega), zn _ _ _ _ (by first | decide | omega)]
            exact E4 k u (by first | decide | omega)
          · intro k k' u s t
            exact E5 k k' u s (by first | decide | omega)
        · have ne : ¬ B 4 q 5 j = e := fun y => jm (hI j m (by first | decide | omega) (by first | decide | omega) (by first | decide | omega) (by first | decide | omega) (by rw [y, hE]))
          refine EVW_f (o4 j j0 (by first | decide | omega)) (fun k => ?_) (fun k y => ?_) (fun k u t => ?_) (fun k y u t s r => ?_) (fun y => z14 8 y)
          · rw [x1, hf.1 1 _ k (fun u => ne u.2.1) (by first | decide | omega), fn 1 _ k (fun u => ne u.2)]
          · exact hf.2.1 1 _ k y (fun u => ne u.2.1)
          · rw [zn _ _ _ _ (by first | decide | omega), hf.2.2 _ _ _ _ (by first | decide | omega), mn _ _ _ _ (by first | decide | omega)]
          · rw [zn _ _ _ _ (by first | decide | omega), hf.2.2 _ _ _ _ (by first | decide | omega), mn _ _ _ _ (by first | decide | omega)]
    · refine ⟨⟨xn _ _ _ (by decide) (by first | decide | omega) (by first | decide | omega), xn _ _ _ (by decide) (by first | decide | omega) (by first | decide | omega), xn _ _ _ (by decide) (by first | decide | omega) (by first | decide | omega), xn _ _ _ (by decide) (by first | decide | omega) (by first | decide | omega), xn _ _ _ (by decide) (by first | decide | omega) (by first | decide | omega)⟩, fun k u t => b' _ _ _ _ (by decide), fun k u t => ⟨b' _ _ _ _ (by decide), b' _ _ _ _ (by decide), b' _ _ _ _ (by decide), z14 _ _, z14 _ _, z14 _ _⟩, fun k u t => ⟨z14 _ _, z14 _ _⟩, fun u => ⟨xn _ _ _ (by decide) (by first | decide | omega) (by first | decide | omega), xn _ _ _ (by decide) (by first | decide | omega) (by first | decide | omega), yn _ _ _ (by first | decide | omega)⟩, by rw [x6, hm']; omega⟩
  have noC : ∀ F' B' Bm' p, lFr e (1000 * v + m) w F2 B M2 F' B' Bm' → 0 ≤ p ∧ p ≤ N → F' 11 0 2 = 9 + 16 * Bm' 14 0 8 p → zP (f_Walker_makeEvent_273 K len 0 F' B') (f_M_event_0_277 Km (1000 * v + m) (de len) (nu len) (F 11 0 9) (F 11 0 10) i (flM G2 Bm' 9 p) Bm') (fun _ F' B' _ Fm' Bm' => WO q v w bar D F B Fm Bm F' B' Fm' Bm') := by
    intro F' B' Bm' p hf hp h2
    have fF : ∀ (c : Nat) y k, ¬ c = 1 → ¬ (c = 11 ∧ y = 0 ∧ k = 2) → F' c y k = F c y k := fun c y k n n' => by rw [hf.1 c y k (fun u => n u.1) n', fn c y k (fun u => n u.1)]
    have fm : ∀ (c : Nat) y k t, ¬ c = 13 → Bm' c y k t = Bm c y k t := fun c y k t n => by rw [hf.2.2 c y k t (fun u => n u.1), mn c y k t (fun u => n u.1)]
    rw [C273 (q := q) h11 h4 (by rw [fF 11 0 1 (by decide) (by first | decide | omega)]; exact a2), L277b (flM_b (by decide) (by decide))]
    refine zP_s ⟨frm F' B' Bm' _ _ Bm' hf (fun c y k n n' => by rw [zup3_v, if_neg (by first | decide | omega), zup3_v, if_neg (by first | decide | omega)]) (fun c y k n => by rw [flM_n (by first | decide | omega), gn c y k (by first | decide | omega)]) (fun c y k t n => rfl) (by rw [zup3_v, if_pos (by first | decide | omega), fF _ _ _ (by decide) (by first | decide | omega)]) (by rw [zup3_v, if_neg (by first | decide | omega), zup3_v, if_pos (by first | decide | omega), fF _ _ _ (by decide) (by first | decide | omega), hm']), Or.inr ⟨?_, ?_, ?_, flM_b (by decide) (by decide), ?_, ?_, ?_, ?_, ?_, ?_⟩⟩
    · rw [zup3_v, if_neg (by first | decide | omega), zup3_v, if_neg (by first | decide | omega), fF _ _ _ (by decide) (by first | decide | omega)]; exact a1
    · rw [zup3_v, if_neg (by first | decide | omega), zup3_v, if_neg (by first | decide | omega), fF _ _ _ (by decide) (by first | decide | omega)]; exact a2
    · rw [zup3_v, if_neg (by first | decide | omega), zup3_v, if_neg (by first | decide | omega), h2, flM_17, flM_18]
    · rw [flM_18, fm _ _ _ _ (by decide)]; exact pl p hp.1 hp.2
    · rw [flM_n (by decide), gn _ _ _ (by first | decide | omega)]; exact b1
    · rw [flM_n (by decide), gn _ _ _ (by first | decide | omega)]; exact b2
    · rw [zup3_v, if_neg (by first | decide | omega), zup3_v, if_pos (by first | decide | omega), fF _ _ _ (by decide) (by first | decide | omega), hm']; omega
    · rw [flM_n (by decide), gn _ _ _ (by first | decide | omega), ← o1]; omega
    · rw [zup3_v, if_neg (by first | decide | omega), zup3_v, if_neg (by first | decide | omega), fF _ _ _ (by decide) (by first | decide | omega)]; omega
  have main := P_ploop (K := K) (Km := Km) (x := x) (s0 := s0) (cnt := B 3 0 6 x) (p0 := B 3 0 3 x) (N := N) (nn := (F 11 0 18).toNat) (by first | decide | omega) (by first | decide | omega) h11 h3 he (by first | decide | omega) hx (by rw [gn _ _ _ (by first | decide | omega)]; exact a4) (by rw [gn _ _ _ (by first | decide | omega)]; exact b2) w0 (by rw [gn _ _ _ (by first | decide | omega), ← n1]; omega) (by first | decide | omega) (by first | decide | omega) (by first | decide | omega) kd4 N1 okC noC (fun t u s => by rw [mn _ _ _ _ (by first | decide | omega)]; exact pl t u s) (B 3 0 6 x).toNat K.1 Km (k := 0) (by first | decide | omega) (Int.le_refl _) (by first | decide | omega) (by first | decide | omega) (by first | decide | omega) E0 PH lFr_r
  rw [Int.add_zero] at main
  have e249 : f_M_event_0_249 Km Km s0 (s0 + cnt) (1000 * v + m) (de len) (nu len) (F 11 0 9) (F 11 0 10) i G2 M2 = f_M_event_0_249 Km Km s0 (s0 + B 3 0 6 x) (1000 * v + m) (de len) (nu len) (F 11 0 9) (F 11 0 10) i G2 M2 := by
    rcases kd2 with y | ⟨y, y'⟩
    · rw [y]
    · obtain ⟨k, hk⟩ : ∃ k, Km = k + 1 := ⟨Km - 1, (by first | decide | omega)⟩
      have st : ∀ c, c ≤ 0 → -10 ≤ c → f_M_event_0_249 Km Km s0 (s0 + c) (1000 * v + m) (de len) (nu len) (F 11 0 9) (F 11 0 10) i G2 M2 = f_M_event_0_277 Km (1000 * v + m) (de len) (nu len) (F 11 0 9) (F 11 0 10) i G2 M2 := fun c c0 c1 => by
        rw [show f_M_event_0_249 Km Km = f_M_event_0_249 Km (k + 1) by rw [← hk], f_M_event_0_249, if_pos (by unfold r32; omega), if_pos (by unfold r32; omega), if_pos (by first | decide | omega)]
      rw [y, y', st (-1) (by decide) (by decide), st 0 (by decide) (by decide)]
  rw [e249]
  exact main
end
