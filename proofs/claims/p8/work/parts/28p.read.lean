section
/-! ===== read keeps what stands between calls ===== -/
theorem IR_IC {K : zK} {Km : Nat} {p p0 p1 w w0 w1 : Int} {F : zF} {B : zB} {Fm : zF} {Bm : zB} (h : IR K Km p p0 p1 w w0 w1 F B Fm Bm) (t : IT F B Fm Bm) : IC K Km p p0 p1 w w0 w1 F B Fm Bm := by
  obtain ⟨a, b, c, d, e⟩ := h
  exact ⟨a, b, c, t, d, e⟩
theorem IC_IR {K : zK} {Km : Nat} {p p0 p1 w w0 w1 : Int} {F : zF} {B : zB} {Fm : zF} {Bm : zB} (h : IC K Km p p0 p1 w w0 w1 F B Fm Bm) : IR K Km p p0 p1 w w0 w1 F B Fm Bm ∧ IT F B Fm Bm := by
  obtain ⟨a, b, c, t, d, e⟩ := h
  exact ⟨⟨a, b, c, d, e⟩, t⟩
theorem IT_ph {K K' : zK} {p w : Int} {F F' : zF} {B B' : zB} {Fm Fm' : zF} {Bm Bm' : zB} (t : IT F B Fm Bm) (k : 0 < K.2 0) (f : PhF K K' p w F B Fm Bm F' B' Fm' Bm') (z : F' 0 0 1 = 0 ∧ Fm' 14 0 3 = 0) : IT F' B' Fm' Bm' := by
  obtain ⟨t1, t2, t3, t4, t5⟩ := t
  have e : B' 0 0 0 = B 0 0 0 := by funext x; exact f.2.2.1 0 0 0 x k (by first | decide | omega) (by first | decide | omega) (by first | decide | omega) (by first | decide | omega) (by first | decide | omega) (by first | decide | omega)
  refine ⟨by rw [z.1, z.2], (by first | decide | omega), (by first | decide | omega), by rw [e]; exact t4, ?_⟩
  rw [e, ← t5]
  unfold tmB
  funext y
  rw [f.2.2.2.2.2.1 14 0 2 y (by first | decide | omega) (by first | decide | omega)]
/-- the read piece changes places with one that was kept -/
theorem IR_sw {K : zK} {Km : Nat} {V p p0 p1 w w0 w1 l1 lo pl po wl wo : Int} {F : zF} {B : zB} {Fm Fm' : zF} {Bm Bm' : zB} (h : IR K Km p p0 p1 w w0 w1 F B Fm Bm) (hp : 0 ≤ p) (hl : (l1 = 0 ∧ lo = 1 ∧ pl = p0 ∧ po = p1 ∧ wl = w0 ∧ wo = w1) ∨ (l1 = 1 ∧ lo = 0 ∧ pl = p1 ∧ po = p0 ∧ wl = w1 ∧ wo = w0)) (r : RdK K V p w wl l1 F B Fm Bm Fm' Bm') : IA K Km ∧ IB (zup3 F 12 0 7 pl) ∧ ID K (zup4 B 12 0 3 l1 p) Bm' ∧ ((zup3 F 12 0 7 pl) 12 0 7 = pl ∧ (zup4 B 12 0 3 l1 p) 12 0 3 l1 = p ∧ (zup4 B 12 0 3 l1 p) 12 0 3 lo = po ∧ Fm' 14 0 6 = wl ∧ Bm' 14 0 5 l1 = w ∧ Bm' 14 0 5 lo = wo) ∧ IF K (zup3 F 12 0 7 pl) ∧ (∀ q, slE (zup4 B 12 0 3 l1 p) q = slE B q) ∧ SL K p w (zup3 F 12 0 7 pl) (zup4 B 12 0 3 l1 p) Fm' Bm' ∧ SL K po wo (zup3 F 12 0 7 pl) (zup4 B 12 0 3 l1 p) Fm' Bm' := by
  obtain ⟨hA, ⟨o0, o2, o4, o5, o6, o11⟩, ⟨d1, d2, d3, d4, d5, d6, d7⟩, ⟨n1, n2, n3, n4, n5, n6⟩, hW, hQ, hG, hF, s0, s1⟩ := h
  obtain ⟨r1, ⟨r2, r3, _⟩, r4, r5, ⟨r6, r7, r8⟩, r9, r10⟩ := r
  have fn : ∀ c y k, ¬ (c = 12 ∧ y = 0 ∧ k = 7) → (zup3 F 12 0 7 pl) c y k = F c y k := fun c y k a => by rw [zup3_v, if_neg a]
  have bn : ∀ c y k x, ¬ (c = 12 ∧ y = 0 ∧ k = 3 ∧ x = l1) → (zup4 B 12 0 3 l1 p) c y k x = B c y k x := fun c y k x a => by rw [zup4_v, if_neg a]
  have hwo : ¬ wo = w ∧ ¬ wo = wl := by unfold IW at hW; omega
  have hSo : SL K po wo F B Fm Bm := by
    rcases hl with ⟨_, _, _, e1, _, e2⟩ | ⟨_, _, _, e1, _, e2⟩
    · rw [e1, e2]; exact s1
    · rw [e1, e2]; exact s0
  have ho : B 12 0 3 lo = po ∧ Bm 14 0 5 lo = wo := by
    rcases hl with ⟨_, e0, _, e1, _, e2⟩ | ⟨_, e0, _, e1, _, e2⟩
    · rw [e0, e1, e2]; exact ⟨n3, n6⟩
    · rw [e0, e1, e2]; exact ⟨n2, n5⟩
  have nl : ¬ lo = l1 := by omega
  refine ⟨hA, ?_, ⟨GS_B d1 (fun y v _ _ => bn 6 y 0 v (by first | decide | omega)) (fun q x _ _ => bn 4 q 5 x (by first | decide | omega)), fun j => by rw [bn 10 0 5 j (by first | decide | omega)]; exact d2 j, fun q s a b c d => by rw [bn 4 q 12 s (by first | decide | omega)]; exact d3 q s a b c d, ?_, r6, r7, r8⟩, ⟨by rw [zup3_v, if_pos (by first | decide | omega)], by rw [zup4_v, if_pos (by first | decide | omega)], by rw [bn 12 0 3 lo (by first | decide | omega)]; exact ho.1, r2, r5, by rw [r4 14 0 5 lo (by first | decide | omega) (by first | decide | omega) (by first | decide | omega)]; exact ho.2⟩, ?_, fun q => slE_e (fun _ v => bn 6 q 0 v (by first | decide | omega)), Or.inr ⟨hp, r3, V, ?_, r10⟩, ?_⟩
  · unfold IB
    rw [fn 12 0 0 (by first | decide | omega), fn 12 0 2 (by first | decide | omega), fn 12 0 4 (by first | decide | omega), fn 12 0 5 (by first | decide | omega), fn 12 0 6 (by first | decide | omega), fn 3 0 11 (by first | decide | omega)]
    exact ⟨o0, o2, o4, o5, o6, o11⟩
  · unfold MW at *
    have r : ∀ k, 13 ≤ k → k ≤ 15 → Bm' 14 0 k = Bm 14 0 k := fun k a b => by funext y; exact r4 14 0 k y (by first | decide | omega) (by first | decide | omega) (by first | decide | omega)
    rw [r 13 (by decide) (by decide), r 14 (by decide) (by decide), r 15 (by decide) (by decide)]
    exact d4
  · intro y y0 y1
    rw [fn 6 y 8 (by first | decide | omega), fn 6 y 9 (by first | decide | omega), fn 6 y 12 (by first | decide | omega)]
    exact hF y y0 y1
  · exact PK_e r9 (fun _ => Int.le_refl _) (fun k _ => fn 6 p k (by first | decide | omega)) (by funext v; exact bn 6 p 0 v (by first | decide | omega)) (fun u _ _ => by funext k; exact fn 4 _ k (by first | decide | omega)) (fun u _ _ => by funext k x; exact bn 4 _ k x (by first | decide | omega)) (fun u i _ _ _ _ => by funext k; exact fn 1 _ k (by first | decide | omega)) (fun u i _ _ _ _ => by funext k x; exact bn 1 _ k x (by first | decide | omega)) (fun _ _ _ => rfl) (fun _ _ _ => rfl)
  · exact SL_e hSo (fun _ => Int.le_refl _) (fun _ _ k _ => fn 6 po k (by first | decide | omega)) (fun _ _ v => bn 6 po 0 v (by first | decide | omega)) (fun q k _ _ _ _ _ => ⟨fn 4 q k (by first | decide | omega), fun x => bn 4 q k x (by first | decide | omega)⟩) (fun q i k _ _ _ _ _ _ _ => ⟨fn 1 _ k (by first | decide | omega), fun x => bn 1 _ k x (by first | decide | omega)⟩) (fun k => r1 13 wo k (by first | decide | omega) (by first | decide | omega) (by first | decide | omega)) (fun k x => r4 13 wo k x (by first | decide | omega) (by first | decide | omega) (by first | decide | omega))
/-- the call of read, both sides, from any state between calls -/
theorem P_read29 {K : zK} {Km : Nat} {p p0 p1 w w0 w1 l1 : Int} {F : zF} {B : zB} {Fm : zF} {Bm : zB} (h : IC K Km p p0 p1 w w0 w1 F B Fm Bm) (hp : 0 ≤ p) (l0 : 0 ≤ l1 ∧ l1 < 2) : ∃ r K' F' B' Fm' Bm' q q0 q1 v v0 v1, f_S_read_29 K 0 l1 F B = some (r, F', B', K') ∧ f_M_read Km l1 Fm Bm = some (r, Fm', Bm') ∧ IC K' Km q q0 q1 v v0 v1 F' B' Fm' Bm' := by
  obtain ⟨hR, hT⟩ := IC_IR h
  obtain ⟨r, K', F3, B3, Fm3, Bm3, ph, z, fl, res⟩ := P_rd29 hR hT hp l0
  have k0 : 0 < K.2 0 := by have := hR.1.2.2.1; omega
  have hR' := IR_ph hR hp ph
  have hT' := IT_ph hT k0 ph z
  rcases res with ⟨rz, c, m⟩ | ⟨rfl, c, V, Fm', Bm', m, rk⟩
  · exact ⟨r, K', F3, B3, Fm3, Bm3, p, p0, p1, w, w0, w1, c, m, IR_IC hR' hT'⟩
  · have hT2 : IT (zup3 F3 12 0 7 (B3 12 0 3 l1)) (zup4 B3 12 0 3 l1 p) Fm' Bm' := by
      obtain ⟨t1, t2, t3, t4, t5⟩ := hT'
      have e : (zup4 B3 12 0 3 l1 p) 0 0 0 = B3 0 0 0 := by funext x; rw [zup4_v, if_neg (by first | decide | omega)]
      unfold IT
      rw [e, zup3_v, if_neg (by first | decide | omega), rk.1 14 0 3 (by first | decide | omega) (by first | decide | omega) (by first | decide | omega)]
      refine ⟨t1, t2, t3, t4, ?_⟩
      rw [← t5]
      unfold tmB
      funext y
      rw [rk.2.2.1 14 0 2 y (by first | decide | omega) (by first | decide | omega) (by first | decide | omega)]
    have n5 : Bm 14 0 5 0 = w0 ∧ Bm 14 0 5 1 = w1 := ⟨hR.2.2.2.1.2.2.2.2.1, hR.2.2.2.1.2.2.2.2.2⟩
    have nn := hR'.2.2.2.1
    have hW := hR'.2.2.2.2.1
    have hQ := hR'.2.2.2.2.2.1
    have hG := hR'.2.2.2.2.2.2.1
    have : l1 = 0 ∨ l1 = 1 := by omega
    rcases this with rfl | rfl
    · rw [n5.1] at rk
      rw [nn.2.1] at c hT2
      obtain ⟨s1, s2, s3, ⟨m1, m2, m3, m4, m5, m6⟩, s5, s6, s7, s8⟩ := IR_sw (l1 := 0) (lo := 1) (pl := p0) (po := p1) (wl := w0) (wo := w1) hR' hp (Or.inl ⟨rfl, rfl, rfl, rfl, rfl, rfl⟩) rk
      refine ⟨0, K', _, _, Fm', Bm', p0, p, p1, w0, w, w1, c, m, s1, s2, s3, hT2, ⟨m1, m2, m3, m4, m5, m6⟩, ?_, ?_, ?_, s5, s7, s8⟩
      · unfold IW at *; omega
      · unfold IQp at *; omega
      · unfold IG at *; rw [s6, s6, s6]; omega
    · rw [n5.2] at rk
      rw [nn.2.2.1] at c hT2
      obtain ⟨s1, s2, s3, ⟨m1, m2, m3, m4, m5, m6⟩, s5, s6, s7, s8⟩ := IR_sw (l1 := 1) (lo := 0) (pl := p1) (po := p0) (wl := w1) (wo := w0) hR' hp (Or.inr ⟨rfl, rfl, rfl, rfl, rfl, rfl⟩) rk
      refine ⟨0, K', _, _, Fm', Bm', p1, p0, p, w1, w0, w, c, m, s1, s2, s3, hT2, ⟨m1, m3, m2, m4, m6, m5⟩, ?_, ?_, ?_, s5, s8, s7⟩
      · unfold IW at *; omega
      · unfold IQp at *; omega
      · unfold IG at *; rw [s6, s6, s6]; omega
theorem P_read {K : zK} {Km : Nat} {p p0 p1 w w0 w1 l1 : Int} {F : zF} {B : zB} {Fm : zF} {Bm : zB} (h : IC K Km p p0 p1 w w0 w1 F B Fm Bm) (rl : r32 l1) : ∃ r K' F' B' Fm' Bm' q q0 q1 v v0 v1, f_S_read K 0 l1 F B = some (r, F', B', K') ∧ f_M_read Km l1 Fm Bm = some (r, Fm', Bm') ∧ IC K' Km q q0 q1 v v0 v1 F' B' Fm' Bm' := by
  by_cases l0 : 0 ≤ l1 ∧ l1 < 2
  · have hA := h.1.2.2
    have n1 := h.2.2.2.2.1.1
    have k12 : 0 ≤ (0 : Int) ∧ (0 : Int) < K.2 12 := ⟨Int.le_refl _, hA.2.2.2.2.2.2.2.2.2⟩
    have g6 : 0 ≤ K.2 6 := (h.2.2.1.1.1 6 (by decide)).1
    have g4 : 0 ≤ K.2 4 := (h.2.2.1.1.1 4 (by decide)).1
    by_cases hp : p < 0
    · have hN := IC_new h hp
      obtain ⟨r, K', F', B', Fm', Bm', q, q0, q1, v, v0, v1, c, m, hI⟩ := P_read29 (l1 := l1) hN g6 l0
      refine ⟨r, K', F', B', Fm', Bm', q, q0, q1, v, v0, v1, ?_, m, hI⟩
      have k6' : zinN K.2 6 6 = K.2 6 + 1 := by rw [zinN_v, if_pos rfl]
      have k12' : zinN K.2 6 12 = K.2 12 := by rw [zinN_v, if_neg (by decide)]
      unfold f_S_read f_Piece_init f_S_read_26
      rw [if_pos rl, if_neg (by first | decide | omega), if_pos l0.2, if_pos k12, n1, if_pos hp, if_pos g6, if_pos (by first | decide | omega), if_pos (by first | decide | omega), if_pos (by first | decide | omega), if_pos (by first | decide | omega)]
      simp only [zbM_s]
      rw [if_pos (show 0 ≤ K.2 6 ∧ K.2 6 < zinN K.2 6 6 by omega), if_pos (show 0 ≤ (0 : Int) ∧ (0 : Int) < zinN K.2 6 12 by omega), if_pos (show 0 ≤ (0 : Int) ∧ (0 : Int) < zinN K.2 6 12 by omega), if_pos (show K.2 6 < zinN K.2 6 6 by omega)]
      exact c
    · obtain ⟨r, K', F', B', Fm', Bm', q, q0, q1, v, v0, v1, c, m, hI⟩ := P_read29 (l1 := l1) h (by first | decide | omega) l0
      refine ⟨r, K', F', B', Fm', Bm', q, q0, q1, v, v0, v1, ?_, m, hI⟩
      unfold f_S_read
      rw [if_pos rl, if_neg (by first | decide | omega), if_pos l0.2, if_pos k12, n1, if_neg hp]
      exact c
  · refine ⟨-1, K, F, B, Fm, Bm, p, p0, p1, w, w0, w1, ?_, ?_, h⟩
    · unfold f_S_read f_S_read_9
      rw [if_pos rl]
      by_cases a : l1 < 0
      · rw [if_pos a]
      · rw [if_neg a, if_neg (by first | decide | omega)]
    · unfold f_M_read f_M_read_9
      rw [if_pos rl]
      by_cases a : l1 < 0
      · rw [if_pos a]
      · rw [if_neg a, if_neg (by first | decide | omega)]
end
