section
section
/-! ===== read keeps what stands between calls ===== -/
theorem IR_IC {K : zK} {Km : Nat} {p p0 p1 w w0 w1 : Int} {F : zF} {B : zB} {Fm : zF} {Bm : zB} (h : IR K Km p p0 p1 w w0 w1 F B Fm Bm) (t : IT F B Fm Bm) : IC K Km p p0 p1 w w0 w1 F B Fm Bm := by
  obtain ⟨a, b, c, d, e⟩ := h
  exact ⟨a, b, c, t, d, e⟩
theorem IC_IR {K : zK} {Km : Nat} {p p0 p1 w w0 w1 : Int} {F : zF} {B : zB} {Fm : zF} {Bm : zB} (h : IC K Km p p0 p1 w w0 w1 F B Fm Bm) : IR K Km p p0 p1 w w0 w1 F B Fm Bm ∧ IT F B Fm Bm := by
  obtain ⟨a, b, c, t, d, e⟩ := h
  exact ⟨⟨a, b, c, d, e⟩, t⟩
theorem IT_ph {K K' : zK} {p w : Int} {F F' : zF} {B B' : zB} {Fm Fm' : zF} {Bm Bm' : zB} (t : IT F B Fm Bm) (k : 0 < K.2 0) (f : PhF K K' p w F B Fm Bm F' B' Fm' Bm') (z : F' 0 0 1 = 0 ∧ Fm' 14 0 3 = 0) : IT F' B' Fm' Bm' := by
  obtain ⟨t1, t2, t3, t4, t5⟩ := t
  have e : B' 0 0 0 = B 0 0 0 := by funext x; exact f.2.2.1 0 0 0 x k (by first | decide | omega) (by first | decide | omega) (by first | decide | omega) (by first | decide | omega) (by first | decide | omega) (by first | decide | omega)
  refine ⟨by rw [z.1, z.2], (by first | decide | omega), (by first | decide | omega), by rw [e]; exact t4, ?_⟩
  rw [e, ← t5]
  unfold tmB
  funext y
  rw [f.2.2.2.2.2.1 14 0 2 y (by first | decide | omega) (by first | decide | omega)]
/-- the read piece changes places with one that was kept -/
theorem IR_sw {K : zK} {Km : Nat} {V p p0 p1 w w0 w1 l1 lo pl po wl wo : Int} {F : zF} {B : zB} {Fm Fm' : zF} {Bm Bm' : zB} (h : IR K Km p p0 p1 w w0 w1 F B Fm Bm) (hp : 0 ≤ p) (hl : (l1 = 0 ∧ lo = 1 ∧ pl = p0 ∧ po = p1 ∧ wl = w0 ∧ wo = w1) ∨ (l1 = 1 ∧ lo = 0 ∧ pl = p1 ∧ po = p0 ∧ wl = w1 ∧ wo = w0)) (r : RdK K V p w wl l1 F B Fm Bm Fm' Bm') : IA K Km ∧ IB (zup3 F 12 0 7 pl) ∧ ID K (zup4 B 12 0 3 l1 p) Bm' ∧ ((zup3 F 12 0 7 pl) 12 0 7 = pl ∧ (zup4 B 12 0 3 l1 p) 12 0 3 l1 = p ∧ (zup4 B 12 0 3 l1 p) 12 0 3 lo = po ∧ Fm' 14 0 6 = wl ∧ Bm' 14 0 5 l1 = w ∧ Bm' 14 0 5 lo = wo) ∧ IF K (zup3 F 12 0 7 pl) ∧ (∀ q, slE (zup4 B 12 0 3 l1 p) q = slE B q) ∧ SL K p w (zup3 F 12 0 7 pl) (zup4 B 12 0 3 l1 p) Fm' Bm' ∧ SL K po wo (zup3 F 12 0 7 pl) (zup4 B 12 0 3 l1 p) Fm' Bm' := by
  obtain ⟨hA, ⟨o0, o2, o4, o5, o6, o11⟩, ⟨d1, d2, d3, d4, d5, d6, d7⟩, ⟨n1, n2, n3, n4, n5, n6⟩, hW, hQ, hG, hF, s0, s1⟩ := h
  obtain ⟨r1, ⟨r2, r3, _⟩, r4, r5, ⟨r6, r7, r8⟩, r9, r10, _⟩ := r
  have fn : ∀ c y k, ¬ (c = 12 ∧ y = 0 ∧ k = 7) → (zup3 F 12 0 7 pl) c y k = F c y k := fun c y k a => by rw [zup3_v, if_neg a]
  have bn : ∀ c y k x, ¬ (c = 12 ∧ y = 0 ∧ k = 3 ∧ x = l1) → (zup4 B 12 0 3 l1 p) c y k x = B c y k x := fun c y k x a => by rw [zup4_v, if_neg a]
  have hwo : ¬ wo = w ∧ ¬ wo = wl := by unfold IW at hW; omega
  have hSo : SL K po wo F B Fm Bm := by
    rcases hl with ⟨_, _, _, e1, _, e2⟩ | ⟨_, _, _, e1, _, e2⟩
    · rw [e1, e2]; exact s1
    · rw [e1, e2]; exact s0
  have ho : B 12 0 3 lo = po ∧ Bm 14 0 5 lo = wo := by
    rcases hl with ⟨_, e0, _, e1, _, e2⟩ | ⟨_, e0, _, e1, _, e2⟩
    · rw [e0, e1, e2]; exact ⟨n3, n6⟩
    · rw [e0, e1, e2]; exact ⟨n2, n5⟩
  have nl : ¬ lo = l1 := by omega
  refine ⟨hA, ?_, ⟨GS_B d1 (fun y v _ _ => bn 6 y 0 v (by first | decide | omega)) (fun q x _ _ => bn 4 q 5 x (by first | decide | omega)), fun j => by rw [bn 10 0 5 j (by first | decide | omega)]; exact d2 j, fun q s a b c d => by rw [bn 4 q 12 s (by first | decide | omega)]; exact d3 q s a b c d, ?_, r6, r7, r8⟩, ⟨by rw [zup3_v, if_pos (by first | decide | omega)], by rw [zup4_v, if_pos (by first | decide | omega)], by rw [bn 12 0 3 lo (by first | decide | omega)]; exact ho.1, r2, r5, by rw [r4 14 0 5 lo (by first | decide | omega) (by first | decide | omega) (by first | decide | omega)]; exact ho.2⟩, ?_, fun q => slE_e (fun _ v => bn 6 q 0 v (by first | decide | omega)), Or.inr ⟨hp, r3, V, ?_, r10⟩, ?_⟩
  · unfold IB
    rw [fn 12 0 0 (by first | decide | omega), fn 12 0 2 (by first | decide | omega), fn 12 0 4 (by first | decide | omega), fn 12 0 5 (by first | decide | omega), fn 12 0 6 (by first | decide | omega), fn 3 0 11 (by first | decide | omega)]
    exact ⟨o0, o2, o4, o5, o6, o11⟩
  · unfold MW at *
    have r : ∀ k, 13 ≤ k → k ≤ 15 → Bm' 14 0 k = Bm 14 0 k := fun k a b => by funext y; exact r4 14 0 k y (by first | decide | omega) (by first | decide | omega) (by first | decide | omega)
    rw [r 13 (by decide) (by decide), r 14 (by decide) (by decide), r 15 (by decide) (by decide)]
    exact d4
  · intro y y0 y1
    rw [fn 6 y 8 (by first | decide | omega), fn 6 y 9 (by first | decide | omega), fn 6 y 12 (by first | decide | omega)]
    exact hF y y0 y1
  · exact PK_e r9 (fun _ => Int.le_refl _) (fun k _ => fn 6 p k (by first | decide | omega)) (by funext v; exact bn 6 p 0 v (by first | decide | omega)) (fun u _ _ => by funext k; exact fn 4 _ k (by first | decide | omega)) (fun u _ _ => by funext k x; exact bn 4 _ k x (by first | decide | omega)) (fun u i _ _ _ _ => by funext k; exact fn 1 _ k (by first | decide | omega)) (fun u i _ _ _ _ => by funext k x; exact bn 1 _ k x (by first | decide | omega)) (fun _ _ _ => rfl) (fun _ _ _ => rfl)
  · exact SL_e hSo (fun _ => Int.le_refl _) (fun _ _ k _ => fn 6 po k (by first | decide | omega)) (fun _ _ v => bn 6 po 0 v (by first | decide | omega)) (fun q k _ _ _ _ _ => ⟨fn 4 q k (by first | decide | omega), fun x => bn 4 q k x (by first | decide | omega)⟩) (fun q i k _ _ _ _ _ _ _ => ⟨fn 1 _ k (by first | decide | omega), fun x => bn 1 _ k x (by first | decide | omega)⟩) (fun k => r1 13 wo k (by first | decide | omega) (by first | decide | omega) (by first | decide | omega)) (fun k x => r4 13 wo k x (by first | decide | omega) (by first | decide | omega) (by first | decide | omega))
/-- the call of read, both sides, from any state between calls -/
theorem P_read29 {K : zK} {Km : Nat} {p p0 p1 w w0 w1 l1 : Int} {F : zF} {B : zB} {Fm : zF} {Bm : zB} (h : IC K Km p p0 p1 w w0 w1 F B Fm Bm) (hp : 0 ≤ p) (l0 : 0 ≤ l1 ∧ l1 < 2) : ∃ r K' F' B' Fm' Bm' q q0 q1 v v0 v1, f_S_read_29 K 0 l1 F B = some (r, F', B', K') ∧ f_M_read Km l1 Fm Bm = some (r, Fm', Bm') ∧ IC K' Km q q0 q1 v v0 v1 F' B' Fm' Bm' := by
  obtain ⟨hR, hT⟩ := IC_IR h
  obtain ⟨r, K', F3, B3, Fm3, Bm3, ph, z, fl, res⟩ := P_rd29 hR hT hp l0
  have k0 : 0 < K.2 0 := by have := hR.1.2.2.1; omega
  have hR' := IR_ph hR hp ph
  have hT' := IT_ph hT k0 ph z
  rcases res with ⟨rz, c, m⟩ | ⟨rfl, c, V, Fm', Bm', m, rk⟩
  · exact ⟨r, K', F3, B3, Fm3, Bm3, p, p0, p1, w, w0, w1, c, m, IR_IC hR' hT'⟩
  · have hT2 : IT (zup3 F3 12 0 7 (B3 12 0 3 l1)) (zup4 B3 12 0 3 l1 p) Fm' Bm' := by
      obtain ⟨t1, t2, t3, t4, t5⟩ := hT'
      have e : (zup4 B3 12 0 3 l1 p) 0 0 0 = B3 0 0 0 := by funext x; rw [zup4_v, if_neg (by first | decide | omega)]
      unfold IT
      rw [e, zup3_v, if_neg (by first | decide | omega), rk.1 14 0 3 (by first | decide | omega) (by first | decide | omega) (by first | decide | omega)]
      refine ⟨t1, t2, t3, t4, ?_⟩
      rw [← t5]
      unfold tmB
      funext y
      rw [rk.2.2.1 14 0 2 y (by first | decide | omega) (by first | decide | omega) (by first | decide | omega)]
    have n5 : Bm 14 0 5 0 = w0 ∧ Bm 14 0 5 1 = w1 := ⟨hR.2.2.2.1.2.2.2.2.1, hR.2.2.2.1.2.2.2.2.2⟩
    have nn := hR'.2.2.2.1
    have hW := hR'.2.2.2.2.1
    have hQ := hR'.2.2.2.2.2.1
    have hG := hR'.2.2.2.2.2.2.1
    have : l1 = 0 ∨ l1 = 1 := by omega
    rcases this with rfl | rfl
    · rw [n5.1] at rk
      rw [nn.2.1] at c hT2
      obtain ⟨s1, s2, s3, ⟨m1, m2, m3, m4, m5, m6⟩, s5, s6, s7, s8⟩ := IR_sw (l1 := 0) (lo := 1) (pl := p0) (po := p1) (wl := w0) (wo := w1) hR' hp (Or.inl ⟨rfl, rfl, rfl, rfl, rfl, rfl⟩) rk
      refine ⟨0, K', _, _, Fm', Bm', p0, p, p1, w0, w, w1, c, m, s1, s2, s3, hT2, ⟨m1, m2, m3, m4, m5, m6⟩, ?_, ?_, ?_, s5, s7, s8⟩
      · unfold IW at *; omega
      · unfold IQp at *; omega
      · unfold IG at *; rw [s6, s6, s6]; omega
    · rw [n5.2] at rk
      rw [nn.2.2.1] at c hT2
      obtain ⟨s1, s2, s3, ⟨m1, m2, m3, m4, m5, m6⟩, s5, s6, s7, s8⟩ := IR_sw (l1 := 1) (lo := 0) (pl := p1) (po := p0) (wl := w1) (wo := w0) hR' hp (Or.inr ⟨rfl, rfl, rfl, rfl, rfl, rfl⟩) rk
      refine ⟨0, K', _, _, Fm', Bm', p1, p0, p, w1, w0, w, c, m, s1, s2, s3, hT2, ⟨m1, m3, m2, m4, m6, m5⟩, ?_, ?_, ?_, s5, s8, s7⟩
      · unfold IW at *; omega
      · unfold IQp at *; omega
      · unfold IG at *; rw [s6, s6, s6]; omega
theorem P_read {K : zK} {Km : Nat} {p p0 p1 w w0 w1 l1 : Int} {F : zF} {B : zB} {Fm : zF} {Bm : zB} (h : IC K Km p p0 p1 w w0 w1 F B Fm Bm) (rl : r32 l1) : ∃ r K' F' B' Fm' Bm' q q0 q1 v v0 v1, f_S_read K 0 l1 F B = some (r, F', B', K') ∧ f_M_read Km l1 Fm Bm = some (r, Fm', Bm') ∧ IC K' Km q q0 q1 v v0 v1 F' B' Fm' Bm' := by
  by_cases l0 : 0 ≤ l1 ∧ l1 < 2
  · have hA := h.1.2.2
    have n1 := h.2.2.2.2.1.1
    have k12 : 0 ≤ (0 : Int) ∧ (0 : Int) < K.2 12 := ⟨Int.le_refl _, hA.2.2.2.2.2.2.2.2.2⟩
    have g6 : 0 ≤ K.2 6 := (h.2.2.1.1.1 6 (by decide)).1
    have g4 : 0 ≤ K.2 4 := (h.2.2.1.1.1 4 (by decide)).1
    by_cases hp : p < 0
    · have hN := IC_new h hp
      obtain ⟨r, K', F', B', Fm', Bm', q, q0, q1, v, v0, v1, c, m, hI⟩ := P_read29 (l1 := l1) hN g6 l0
      refine ⟨r, K', F', B', Fm', Bm', q, q0, q1, v, v0, v1, ?_, m, hI⟩
      have k6' : zinN K.2 6 6 = K.2 6 + 1 := by rw [zinN_v, if_pos rfl]
      have k12' : zinN K.2 6 12 = K.2 12 := by rw [zinN_v, if_neg (by decide)]
      unfold f_S_read f_Piece_init f_S_read_26
      rw [if_pos rl, if_neg (by first | decide | omega), if_pos l0.2, if_pos k12, n1, if_pos hp, if_pos g6, if_pos (by first | decide | omega), if_pos (by first | decide | omega), if_pos (by first | decide | omega), if_pos (by first | decide | omega)]
      simp only [zbM_s]
      rw [if_pos (show 0 ≤ K.2 6 ∧ K.2 6 < zinN K.2 6 6 by omega), if_pos (show 0 ≤ (0 : Int) ∧ (0 : Int) < zinN K.2 6 12 by omega), if_pos (show 0 ≤ (0 : Int) ∧ (0 : Int) < zinN K.2 6 12 by omega), if_pos (show K.2 6 < zinN K.2 6 6 by omega)]
      exact c
    · obtain ⟨r, K', F', B', Fm', Bm', q, q0, q1, v, v0, v1, c, m, hI⟩ := P_read29 (l1 := l1) h (by first | decide | omega) l0
      refine ⟨r, K', F', B', Fm', Bm', q, q0, q1, v, v0, v1, ?_, m, hI⟩
      unfold f_S_read
      rw [if_pos rl, if_neg (by first | decide | omega), if_pos l0.2, if_pos k12, n1, if_neg hp]
      exact c
  · refine ⟨-1, K, F, B, Fm, Bm, p, p0, p1, w, w0, w1, ?_, ?_, h⟩
    · unfold f_S_read f_S_read_9
      rw [if_pos rl]
      by_cases a : l1 < 0
      · rw [if_pos a]
      · rw [if_neg a, if_neg (by first | decide | omega)]
    · unfold f_M_read f_M_read_9
      rw [if_pos rl]
      by_cases a : l1 < 0
      · rw [if_pos a]
      · rw [if_neg a, if_neg (by first | decide | omega)]
end
end
section
section
/-! ===== sounds: ticks, forces, tones, pitches that hold on ===== -/
/-- the tick of a place -/
def tk (p : Int) : Int := p / 2116800
theorem tk_0 {p : Int} (h : 0 ≤ p) : 0 ≤ tk p := Int.ediv_nonneg h (by decide)
theorem tk_m {p q : Int} (h : p ≤ q) : tk p ≤ tk q := Int.ediv_le_ediv (by decide) h
theorem tk_b {p : Int} (h : p ≤ 1000000000000) : tk p ≤ 472411 := by
  have := tk_m h
  have : tk 1000000000000 ≤ 472411 := by decide
  omega
theorem C_tick {K : zK} {p : Int} {F : zF} {B : zB} (p0 : 0 ≤ p) (p1 : p ≤ 1000000000000) : f_Performance_tick K p F B = some (tk p, F, B) := by
  unfold f_Performance_tick tk
  rw [zldv_e (by first | decide | omega) (by first | decide | omega) (by decide) (by decide), show (812851200 : Int) = 384 * 2116800 by decide, Int.mul_ediv_mul_of_pos p 2116800 (show (0 : Int) < 384 by decide)]
theorem L_tick {K : Nat} {p : Int} {F : zF} {B : zB} (p0 : 0 ≤ p) (p1 : p ≤ 1000000000000) : f_M_tick K (nu p) (de p) F B = some (tk p, F, B) := by
  have h := FR_r p0
  have hb := FR_b h
  have hw : WW = 812851200 := rfl
  have e := (div_FR (c := 1) (d := 384) (q := 2116800) h.2.2.2 (by decide) h.1 (by decide) (by decide) (by decide)).1
  have t0 := tk_0 p0
  have t1 := tk_b p1
  have n0 := h.2.2.1
  have d0 := h.1
  unfold f_M_tick
  have v : zldv (384 * nu p) (de p) = tk p := by
    rw [zldv_e (by first | decide | omega) (by first | decide | omega) d0 (by first | decide | omega), Int.mul_comm 384]
    rw [Int.mul_one] at e
    exact e
  rw [if_pos (lI_n0 d0 (by unfold r64; omega)), v, if_pos (by unfold r32; omega)]
/-- how hard an event is struck -/
def foV (m l : Int) : Int := if 20 + 13 * l + (if zand m 16 = 0 then 0 else 15) ≤ 127 then 20 + 13 * l + (if zand m 16 = 0 then 0 else 15) else 127
theorem foV_b {m l : Int} (h : 0 ≤ l ∧ l ≤ 7) : 0 ≤ foV m l ∧ foV m l ≤ 127 := by
  unfold foV
  by_cases a : zand m 16 = 0
  · rw [if_pos a]; split <;> omega
  · rw [if_neg a]; split <;> omega
theorem mk8_f : ∀ n : Fin 128, (zand (n.val : Nat) 8 = 0 ∨ zand (n.val : Nat) 8 = 8) ∧ (zand (n.val : Nat) 16 = 0 ∨ zand (n.val : Nat) 16 = 16) ∧ (zand (n.val : Nat) 32 = 0 ∨ zand (n.val : Nat) 32 = 32) ∧ (zand (n.val : Nat) 64 = 0 ∨ zand (n.val : Nat) 64 = 64) := by decide
theorem mk8_i {a : Int} (h0 : 0 ≤ a) (h1 : a < 128) : (zand a 8 = 0 ∨ zand a 8 = 8) ∧ (zand a 16 = 0 ∨ zand a 16 = 16) ∧ (zand a 32 = 0 ∨ zand a 32 = 32) ∧ (zand a 64 = 0 ∨ zand a 64 = 64) := by
  have h := mk8_f ⟨a.toNat, (by first | decide | omega)⟩
  rw [show (((⟨a.toNat, (by first | decide | omega)⟩ : Fin 128).val : Nat) : Int) = a by show ((a.toNat : Nat) : Int) = a; omega] at h
  exact h
theorem C_force {K : zK} {e : Int} {F : zF} {B : zB} (he : 0 ≤ e ∧ e < K.2 1) (hl : 0 ≤ F 1 e 8 ∧ F 1 e 8 ≤ 7) : f_Performance_force K e F B = some (foV (F 1 e 7) (F 1 e 8), F, B) := by
  unfold f_Performance_force f_Performance_force_25 foV zmin
  rw [if_pos he, C_has he, zb_s]
  by_cases a : zand (F 1 e 7) 16 = 0
  · rw [if_pos a, if_pos (by decide), if_pos rfl, if_pos (by unfold r32; omega), if_pos a]
    by_cases b : 20 + 13 * F 1 e 8 + 0 ≤ 127
    · rw [if_pos b, if_neg (by first | decide | omega)]
    · rw [if_neg b, if_pos (by first | decide | omega)]
  · rw [if_neg a, if_pos (by decide), if_neg (by decide), if_pos (by unfold r32; omega), if_neg a]
    by_cases b : 20 + 13 * F 1 e 8 + 15 ≤ 127
    · rw [if_pos b, if_neg (by first | decide | omega)]
    · rw [if_neg b, if_pos (by first | decide | omega)]
/-- the reference's table of forces -/
def T61 (Bm : zB) : Prop := ∀ l, 0 ≤ l → l < 8 → Bm 14 0 61 l = 20 + 13 * l
theorem L_force {K : Nat} {w x : Int} {F : zF} {B : zB} (hT : T61 B) (w0 : 0 ≤ w ∧ w < 3) (x0 : 0 ≤ x ∧ x < 4000) (hm : 0 ≤ B 13 w 18 x ∧ B 13 w 18 x < 128) (hl : 0 ≤ B 13 w 19 x ∧ B 13 w 19 x ≤ 7) : f_M_forceOf K w x F B = some (foV (B 13 w 18 x) (B 13 w 19 x), F, B) := by
  obtain ⟨_, m16, _, _⟩ := mk8_i hm.1 hm.2
  unfold f_M_forceOf f_M_forceOf_29 f_M_forceOf_43 foV
  rw [if_pos w0, if_pos x0, if_pos (by first | decide | omega), if_pos (zand_R _ _), hT _ hl.1 (by first | decide | omega)]
  by_cases a : zand (B 13 w 18 x) 16 = 0
  · rw [if_pos (show zand (B 13 w 18 x) 16 ≤ 0 by omega), if_pos (show r32 (20 + 13 * B 13 w 19 x + 0) by unfold r32; omega), if_pos a]
    by_cases b : 20 + 13 * B 13 w 19 x + 0 ≤ 127
    · rw [if_pos b, if_pos b]
    · rw [if_neg b, if_neg b]
  · rw [if_neg (show ¬ zand (B 13 w 18 x) 16 ≤ 0 by omega), if_pos (show r32 (20 + 13 * B 13 w 19 x + 15) by unfold r32; omega), if_neg a]
    by_cases b : 20 + 13 * B 13 w 19 x + 15 ≤ 127
    · rw [if_pos b, if_pos b]
    · rw [if_neg b, if_neg b]
/-- the tone of a pitch -/
theorem C_tone {K : zK} {e k : Int} {F : zF} {B : zB} (he : 0 ≤ e ∧ e < K.2 1) (k0 : 0 ≤ k ∧ k < 6) (hs : 0 ≤ B 1 e 12 k ∧ B 1 e 12 k ≤ 62) : f_Event_tone K e k F B = some (tnv (B 1 e 12 k) + B 1 e 13 k, F, B) := by
  unfold f_Event_tone
  rw [if_pos he, if_pos k0, C_nat hs.1 hs.2, zb_s]
theorem L_toneT {K : Nat} {s a : Int} {F : zF} {B : zB} (h0 : 0 ≤ s) (h1 : s ≤ 62) : f_M_tone K s a F B = some (tnv s + a, F, B) := by
  rw [L_tone h0 (by first | decide | omega)]
  rfl
theorem tnv_r {s a : Int} (h0 : 0 ≤ s) (h1 : s ≤ 62) (a0 : -2 ≤ a) (a1 : a ≤ 2) : 0 ≤ tnv s + a ∧ tnv s + a ≤ 127 := by
  unfold tnv
  split <;> omega
/-- a pitch that an event has is found -/
theorem fP_i {rs ra : Int → Int} {c s a k : Int} (k1 : k < c) (e1 : rs k = s) (e2 : ra k = a) : ∀ (n : Nat) (j : Int), 0 ≤ j → j ≤ k → k - j < n → 0 ≤ fP rs ra c s a n j := by
  intro n
  induction n with
  | zero => intro j _ _ h; exfalso; omega
  | succ n ih =>
    intro j j0 jk h
    unfold fP
    split
    · omega
    · split
      · exact j0
      · rename_i h1 h2
        by_cases e : j = k
        · exfalso
          apply h2
          subst e
          exact ⟨e1, e2⟩
        · exact ih (j + 1) (by first | decide | omega) (by first | decide | omega) (by first | decide | omega)
end
end
section
section
/-! ===== pitches that hold on, both sides ===== -/
/-- where event e has the pitch s a, or below 0 -/
def hpB (e s a : Int) (F : zF) (B : zB) : Int := fP (B 1 e 12) (B 1 e 13) (F 1 e 10) s a 7 0
theorem hpB_b {e s a w x : Int} {F : zF} {B Bm : zB} (h : EVK w e x F B Bm) : -1 ≤ hpB e s a F B ∧ hpB e s a F B < 7 := fP_r (Int.le_refl _) h.2.2.2.2.2.2.2.2.2.2.2.2.1.2
theorem C_hpE {K : zK} {e s a w x : Int} {F : zF} {B Bm : zB} (hK : 3002 ≤ K.1) (he : 0 ≤ e ∧ e < K.2 1) (h : EVK w e x F B Bm) (rs : r32 s) (ra : r32 a) : f_Event_hasPitch K e s a F B = some (if hpB e s a F B < 0 then 0 else 1, F, B) := by
  have ep := h.2.2.2.2.2.2.2.2.2.2
  exact C_hasP hK he rfl ep.2.2.1.2 ep.2.2.1.1 (fun k k0 k1 => by have := ep.2.2.2.1 k k0 k1; unfold r32; omega) rs ra
theorem L_hpE {K : Nat} {e s a w x : Int} {F : zF} {B : zB} {Fm : zF} {Bm : zB} (hK : 3002 ≤ K) (w0 : 0 ≤ w ∧ w < 3) (hx : 0 ≤ x ∧ x < 4000) (h : EVK w e x F B Bm) (rs : r32 s) (ra : r32 a) : f_M_has K w x s a Fm Bm = some (hpB e s a F B, Fm, Bm) := by
  have ep := h.2.2.2.2.2.2.2.2.2.2
  rw [L_hasM hK w0 hx ep.2.1 ep.2.2.1.2 ep.2.2.1.1 (fun k k0 k1 => by have := ep.2.2.2.1 k k0 k1; unfold r32; omega) rs ra]
  unfold hpB
  rw [fP_c (rs' := fun k => Bm 13 w 28 (6 * x + k)) (ra' := fun k => Bm 13 w 29 (6 * x + k)) (fun j p r => ⟨(ep.2.2.2.1 j p r).1, (ep.2.2.2.1 j p r).2.1⟩)]
theorem hpB_i {e k w x : Int} {F : zF} {B Bm : zB} (h : EVK w e x F B Bm) (k0 : 0 ≤ k) (k1 : k < F 1 e 10) : 0 ≤ hpB e (B 1 e 12 k) (B 1 e 13 k) F B := by
  have ep := h.2.2.2.2.2.2.2.2.2.2.2.2.1
  exact fP_i k1 rfl rfl 7 0 (Int.le_refl _) k0 (by first | decide | omega)
/-- a voice as both sides keep it -/
def VS (K : zK) (q u w : Int) (m : Nat) (g : Int → Int) (F : zF) (B Bm : zB) : Prop := (0 ≤ q ∧ q < K.2 4) ∧ (0 ≤ w ∧ w < 3) ∧ (0 ≤ u ∧ u < 4) ∧ (F 4 q 6 = m ∧ 1 ≤ m ∧ m ≤ 200) ∧ Bm 13 w 12 u = m ∧ (∀ t : Int, 0 ≤ t → t < m → 0 ≤ B 4 q 5 t ∧ B 4 q 5 t < K.2 1) ∧ (∀ j : Int, 0 ≤ j → j < m → 1 ≤ g j) ∧ sumZ g m ≤ 1000000000000 ∧ (∀ i : Nat, i < m → EVK w (B 4 q 5 i) (1000 * u + i) F B Bm ∧ F 1 (B 4 q 5 i) 0 = sumZ g i ∧ Bm 13 w 14 (1000 * u + i) = nu (sumZ g i) ∧ Bm 13 w 15 (1000 * u + i) = de (sumZ g i) ∧ F 1 (B 4 q 5 i) 1 = g i ∧ (F 1 (B 4 q 5 i) 11 = Bm 13 w 27 (1000 * u + i) ∧ (F 1 (B 4 q 5 i) 11 = 0 ∨ F 1 (B 4 q 5 i) 11 = 1)) ∧ TIk q m F B i)
theorem VS_of {K : zK} {q u w bar : Int} {m : Nat} {g : Int → Int} {F : zF} {B Bm : zB} (h : VK K q u w m bar g F B Bm) (w0 : 0 ≤ w ∧ w < 3) (u0 : 0 ≤ u ∧ u < 4) (hb : 100 * bar ≤ 1000000000000) : VS K q u w m g F B Bm := by
  obtain ⟨a1, a4, a5, a6, a7, a8, a9, a10, c, nw, qn, gb⟩ := h
  refine ⟨qn.1, w0, u0, a1, a4, fun t t0 t1 => (qn.2.2.2.2.2.1 t t0 t1).1, a5, (by first | decide | omega), fun i hi => ?_⟩
  obtain ⟨ev, q1, q2, q3, q4⟩ := a8 i hi
  exact ⟨ev, q1, q2, q3, q4, a9 i hi, a10.2.2.2 i hi⟩
/-- event i holds the pitch s a on -/
def tieOn (q : Int) (i s a : Int) (F : zF) (B : zB) : Prop := ¬ zand (F 1 (B 4 q 5 i) 7) 1 = 0 ∧ 0 ≤ hpB (B 4 q 5 i) s a F B ∧ 0 ≤ hpB (B 4 q 5 (i + 1)) s a F B
theorem L_tiesE {K : zK} {Km : Nat} {q u w s a : Int} {m i : Nat} {g : Int → Int} {F : zF} {B : zB} {Fm : zF} {Bm : zB} (hKm : 3002 ≤ Km) (h : VS K q u w m g F B Bm) (hi : i < m) (rs : r32 s) (ra : r32 a) : (tieOn q i s a F B → f_M_ties Km w (1000 * u + i) s a Fm Bm = some (1, Fm, Bm)) ∧ (¬ tieOn q i s a F B → f_M_ties Km w (1000 * u + i) s a Fm Bm = some (0, Fm, Bm)) := by
  obtain ⟨h4, w0, u0, hm, _, hV, _, _, hE⟩ := h
  obtain ⟨ei, _, _, _, _, _, ti⟩ := hE i hi
  have e7 := ei.2.2.2.2.2.2.2.1
  obtain ⟨y1, _, _⟩ := mkb_i e7.2.1 e7.2.2
  have hx : 0 ≤ 1000 * u + (i : Int) ∧ 1000 * u + (i : Int) < 4000 := by omega
  have b1 := hpB_b (s := s) (a := a) ei
  unfold f_M_ties f_M_ties_37 f_M_ties_38 tieOn
  rw [if_pos w0, if_pos hx, if_pos (zand_R _ _), ← e7.1]
  by_cases z : zand (F 1 (B 4 q 5 i) 7) 1 = 0
  · rw [if_pos (show zand (F 1 (B 4 q 5 i) 7) 1 ≤ 0 by omega), if_pos (Or.inl rfl)]
    exact ⟨fun t => absurd z t.1, fun _ => rfl⟩
  · rw [if_neg (show ¬ zand (F 1 (B 4 q 5 i) 7) 1 ≤ 0 by omega), L_hpE hKm w0 hx ei rs ra, zb_s, if_pos (by unfold r32; omega)]
    by_cases y : hpB (B 4 q 5 i) s a F B < 0
    · rw [if_pos y, if_pos (Or.inl rfl)]
      exact ⟨fun t => (by first | decide | omega), fun _ => rfl⟩
    · have hi1 : i + 1 < m := by
        unfold TIk at ti
        rcases ti with t | t
        · omega
        · exact t
      obtain ⟨en, _⟩ := hE (i + 1) hi1
      have b2 := hpB_b (s := s) (a := a) en
      have ec : ((i + 1 : Nat) : Int) = (i : Int) + 1 := by omega
      rw [ec] at en b2
      rw [if_neg y, show 1000 * u + (i : Int) + 1 = 1000 * u + ((i : Int) + 1) by omega, L_hpE hKm w0 (by first | decide | omega) en rs ra, zb_s, if_pos (by unfold r32; omega)]
      by_cases x : hpB (B 4 q 5 ((i : Int) + 1)) s a F B < 0
      · rw [if_pos x, if_pos (Or.inl rfl)]
        exact ⟨fun t => (by first | decide | omega), fun _ => rfl⟩
      · rw [if_neg x, if_pos (Or.inr rfl)]
        exact ⟨fun _ => rfl, fun t => absurd ⟨z, (by first | decide | omega), (by first | decide | omega)⟩ t⟩
/-- a pitch of event i comes from the event ahead -/
theorem C_from {K : zK} {q u w k : Int} {m i : Nat} {g : Int → Int} {F : zF} {B Bm : zB} (hK : 3002 ≤ K.1) (h : VS K q u w m g F B Bm) (hi : i < m) (k0 : 0 ≤ k) (k1 : k < F 1 (B 4 q 5 i) 10) : ((0 < i ∧ tieOn q (i - 1) (B 1 (B 4 q 5 i) 12 k) (B 1 (B 4 q 5 i) 13 k) F B) → f_Part_isTiedFrom K q i k F B = some (1, F, B)) ∧ (¬ (0 < i ∧ tieOn q (i - 1) (B 1 (B 4 q 5 i) 12 k) (B 1 (B 4 q 5 i) 13 k) F B) → f_Part_isTiedFrom K q i k F B = some (0, F, B)) := by
  obtain ⟨h4, w0, u0, hm, _, hV, _, _, hE⟩ := h
  obtain ⟨ei, _⟩ := hE i hi
  have ep := ei.2.2.2.2.2.2.2.2.2.2
  have c6 := ep.2.2.1
  have pk := ep.2.2.2.1 k k0 k1
  have oi := hpB_i ei k0 k1
  unfold f_Part_isTiedFrom f_Part_isTiedFrom_56 f_Part_isTiedFrom_57
  rw [if_pos h4, if_pos (by first | decide | omega), if_pos (by unfold r32; omega)]
  by_cases z : (i : Int) ≤ 0
  · rw [if_pos z, if_pos (Or.inl rfl)]
    exact ⟨fun t => (by first | decide | omega), fun _ => rfl⟩
  · obtain ⟨j, hj⟩ : ∃ j, i = j + 1 := ⟨i - 1, (by first | decide | omega)⟩
    subst hj
    have ej : ((j + 1 : Nat) : Int) - 1 = (j : Int) := by omega
    have ej2 : (((j + 1 : Nat) : Int)) = (j : Int) + 1 := by omega
    obtain ⟨el, _⟩ := hE j (by first | decide | omega)
    have b1 := hpB_b (s := B 1 (B 4 q 5 ((j + 1 : Nat) : Int)) 12 k) (a := B 1 (B 4 q 5 ((j + 1 : Nat) : Int)) 13 k) el
    rw [if_neg z, ej, if_pos (by first | decide | omega), if_pos (hV j (by first | decide | omega) (by first | decide | omega)), C_has (hV j (by first | decide | omega) (by first | decide | omega)), zb_s]
    unfold tieOn
    by_cases y : zand (F 1 (B 4 q 5 j) 7) 1 = 0
    · rw [if_pos y, if_pos (by decide), if_pos rfl, if_pos (Or.inl rfl)]
      exact ⟨fun t => absurd y t.2.1, fun _ => rfl⟩
    · rw [if_neg y, if_pos (by decide), if_neg (by decide), if_pos (hV _ (by first | decide | omega) (by first | decide | omega)), if_pos (by first | decide | omega), if_pos (hV j (by first | decide | omega) (by first | decide | omega)), C_hpE hK (hV j (by first | decide | omega) (by first | decide | omega)) el (by unfold r32; omega) (by unfold r32; omega), zb_s]
      by_cases x : hpB (B 4 q 5 j) (B 1 (B 4 q 5 ((j + 1 : Nat) : Int)) 12 k) (B 1 (B 4 q 5 ((j + 1 : Nat) : Int)) 13 k) F B < 0
      · rw [if_pos x, if_pos (by decide), if_pos rfl, if_pos (Or.inl rfl)]
        exact ⟨fun t => (by first | decide | omega), fun _ => rfl⟩
      · rw [if_neg x, if_pos (by decide), if_neg (by decide), if_pos (Or.inr rfl)]
        refine ⟨fun _ => rfl, fun t => absurd ⟨(by first | decide | omega), y, (by first | decide | omega), ?_⟩ t⟩
        rw [← ej2]
        exact oi
end
end
section
section
/-! ===== a sound added, both sides ===== -/
def SR (V s j : Int) (B Bm : zB) : Prop := (B 5 s 340 j = Bm 14 0 67 j ∧ 0 ≤ B 5 s 340 j ∧ B 5 s 340 j < 4) ∧ (B 5 s 341 j = Bm 14 0 68 j ∧ 0 ≤ B 5 s 341 j ∧ B 5 s 341 j < 200) ∧ (B 5 s 342 j = Bm 14 0 65 j ∧ 0 ≤ B 5 s 342 j ∧ B 5 s 342 j ≤ 127) ∧ (B 5 s 343 j = Bm 14 0 66 j ∧ 0 ≤ B 5 s 343 j ∧ B 5 s 343 j ≤ 127) ∧ (B 5 s 344 j = Bm 14 0 63 j ∧ 0 ≤ B 5 s 344 j) ∧ (B 5 s 345 j = Bm 14 0 64 j ∧ B 5 s 345 j ≤ 500000) ∧ B 5 s 344 j < B 5 s 345 j ∧ B 5 s 340 j < V
def GA (V s : Int) (F : zF) (B : zB) (Fm : zF) (Bm : zB) : Prop := (F 5 s 1 = 0 ∧ F 5 s 0 = Fm 14 0 62 ∧ 0 ≤ F 5 s 0 ∧ F 5 s 0 ≤ 2000 ∧ ∀ j, 0 ≤ j → j < F 5 s 0 → SR V s j B Bm) ∨ (F 5 s 1 = 1 ∧ F 5 s 0 = 2000 ∧ 2000 < Fm 14 0 62)
/-- what gathering sounds changes -/
def gaF (s : Int) (F F' : zF) : Prop := ∀ c y k, ¬ (c = 5 ∧ y = s ∧ k ≤ 1) → F' c y k = F c y k
def gaB (s : Int) (B B' : zB) : Prop := ∀ c y k x, ¬ (c = 5 ∧ y = s ∧ 340 ≤ k) → B' c y k x = B c y k x
def gaG (F F' : zF) : Prop := ∀ c y k, ¬ (c = 14 ∧ y = 0 ∧ (k ≤ 1 ∨ k = 62)) → F' c y k = F c y k
def gaM (B B' : zB) : Prop := ∀ c y k x, ¬ (c = 14 ∧ y = 0 ∧ 63 ≤ k ∧ k ≤ 68) → B' c y k x = B c y k x
theorem gaF_t {s : Int} {F F1 F2 : zF} (h : gaF s F F1) (h' : gaF s F1 F2) : gaF s F F2 := fun c y k n => by rw [h' c y k n, h c y k n]
theorem gaB_t {s : Int} {B B1 B2 : zB} (h : gaB s B B1) (h' : gaB s B1 B2) : gaB s B B2 := fun c y k x n => by rw [h' c y k x n, h c y k x n]
theorem gaG_t {F F1 F2 : zF} (h : gaG F F1) (h' : gaG F1 F2) : gaG F F2 := fun c y k n => by rw [h' c y k n, h c y k n]
theorem gaM_t {B B1 B2 : zB} (h : gaM B B1) (h' : gaM B1 B2) : gaM B B2 := fun c y k x n => by rw [h' c y k x n, h c y k x n]
theorem GA_g {V s : Int} {F : zF} {B : zB} {Fm Fm' : zF} {Bm : zB} (h : GA V s F B Fm Bm) (e : Fm' 14 0 62 = Fm 14 0 62) : GA V s F B Fm' Bm := by
  unfold GA at *
  rw [e]
  exact h
theorem L_snd {K : Nat} {a b t fo v i : Int} {F : zF} {B : zB} (ab : a < b) (ra : 0 ≤ a) (rb : b ≤ 1000000) (c0 : 0 ≤ F 14 0 62) (c1 : F 14 0 62 ≤ 100000000) : ∃ B', f_M_sound_1 K a b t fo v i F B = some (0, zup3 F 14 0 62 (F 14 0 62 + 1), B') ∧ gaM B B' ∧ (F 14 0 62 < 2000 → (∀ k x, ¬ x = F 14 0 62 → B' 14 0 k x = B 14 0 k x) ∧ B' 14 0 63 (F 14 0 62) = a ∧ B' 14 0 64 (F 14 0 62) = b ∧ B' 14 0 65 (F 14 0 62) = t ∧ B' 14 0 66 (F 14 0 62) = fo ∧ B' 14 0 67 (F 14 0 62) = v ∧ B' 14 0 68 (F 14 0 62) = i) := by
  unfold f_M_sound_1 f_M_sound_1_79
  rw [if_pos (by unfold r32; omega), if_pos (by unfold r32; omega), if_neg (by first | decide | omega), if_pos (by unfold r32; omega)]
  by_cases z : 2000 ≤ F 14 0 62
  · rw [if_pos z]
    exact ⟨B, rfl, fun _ _ _ _ _ => rfl, fun h => (by first | decide | omega)⟩
  · rw [if_neg z, if_pos (by first | decide | omega)]
    refine ⟨_, rfl, fun c y k x n => ?_, fun _ => ⟨fun k x n => ?_, ?_, ?_, ?_, ?_, ?_, ?_⟩⟩
    · rw [zup4_v, if_neg (by first | decide | omega), zup4_v, if_neg (by first | decide | omega), zup4_v, if_neg (by first | decide | omega), zup4_v, if_neg (by first | decide | omega), zup4_v, if_neg (by first | decide | omega), zup4_v, if_neg (by first | decide | omega)]
    · rw [zup4_v, if_neg (by first | decide | omega), zup4_v, if_neg (by first | decide | omega), zup4_v, if_neg (by first | decide | omega), zup4_v, if_neg (by first | decide | omega), zup4_v, if_neg (by first | decide | omega), zup4_v, if_neg (by first | decide | omega)]
    all_goals simp [zup4_v]
theorem P_addS {K : zK} {Km : Nat} {V s v i t e a b : Int} {F : zF} {B : zB} {Fm : zF} {Bm : zB} (hs : 0 ≤ s ∧ s < K.2 5) (he : 0 ≤ e ∧ e < K.2 1) (hl : 0 ≤ F 1 e 8 ∧ F 1 e 8 ≤ 7) (v0 : 0 ≤ v ∧ v < 4) (vV : v < V) (i0 : 0 ≤ i ∧ i < 200) (t0 : 0 ≤ t ∧ t ≤ 127) (a0 : 0 ≤ a) (ab : a < b) (b1 : b ≤ 500000) (c0 : 0 ≤ Fm 14 0 62 ∧ Fm 14 0 62 ≤ 100000000) (h : GA V s F B Fm Bm) : ∃ F' B' Bm', f_Performance_addSound K s v i t e a b F B = some (0, F', B') ∧ f_M_sound_1 Km a b t (foV (F 1 e 7) (F 1 e 8)) v i Fm Bm = some (0, zup3 Fm 14 0 62 (Fm 14 0 62 + 1), Bm') ∧ gaF s F F' ∧ gaB s B B' ∧ gaM Bm Bm' ∧ GA V s F' B' (zup3 Fm 14 0 62 (Fm 14 0 62 + 1)) Bm' := by
  obtain ⟨Bm', m1, m2, m3⟩ := L_snd (K := Km) (t := t) (fo := foV (F 1 e 7) (F 1 e 8)) (v := v) (i := i) (B := Bm) ab a0 (by first | decide | omega) c0.1 c0.2
  have fb := foV_b (m := F 1 e 7) hl
  have z62 : (zup3 Fm 14 0 62 (Fm 14 0 62 + 1)) 14 0 62 = Fm 14 0 62 + 1 := by rw [zup3_v, if_pos (by first | decide | omega)]
  unfold f_Performance_addSound
  rw [if_pos hs]
  rcases h with ⟨g1, g2, g3, g4, g5⟩ | ⟨g1, g2, g3⟩
  · rw [if_pos (by unfold r32; omega)]
    by_cases z : F 5 s 0 < 2000
    · rw [if_pos z, if_pos (by first | decide | omega), C_force he hl, zb_s, if_pos (by first | decide | omega)]
      obtain ⟨n1, n2, n3, n4, n5, n6, n7⟩ := m3 (by first | decide | omega)
      generalize hB' : zup4 (zup4 (zup4 (zup4 (zup4 (zup4 B 5 s 340 (F 5 s 0) v) 5 s 341 (F 5 s 0) i) 5 s 342 (F 5 s 0) t) 5 s 343 (F 5 s 0) (foV (F 1 e 7) (F 1 e 8))) 5 s 344 (F 5 s 0) a) 5 s 345 (F 5 s 0) b = B'
      have bn : ∀ c y k x, ¬ (c = 5 ∧ y = s ∧ 340 ≤ k ∧ k ≤ 345 ∧ x = F 5 s 0) → B' c y k x = B c y k x := fun c y k x n => by rw [← hB', zup4_v, if_neg (by first | decide | omega), zup4_v, if_neg (by first | decide | omega), zup4_v, if_neg (by first | decide | omega), zup4_v, if_neg (by first | decide | omega), zup4_v, if_neg (by first | decide | omega), zup4_v, if_neg (by first | decide | omega)]
      have v0' : B' 5 s 340 (F 5 s 0) = v := by rw [← hB']; simp [zup4_v]
      have v1' : B' 5 s 341 (F 5 s 0) = i := by rw [← hB']; simp [zup4_v]
      have v2' : B' 5 s 342 (F 5 s 0) = t := by rw [← hB']; simp [zup4_v]
      have v3' : B' 5 s 343 (F 5 s 0) = foV (F 1 e 7) (F 1 e 8) := by rw [← hB']; simp [zup4_v]
      have v4' : B' 5 s 344 (F 5 s 0) = a := by rw [← hB']; simp [zup4_v]
      have v5' : B' 5 s 345 (F 5 s 0) = b := by rw [← hB']; simp [zup4_v]
      refine ⟨_, B', Bm', rfl, m1, fun c y k n => by rw [zup3_v, if_neg (by first | decide | omega)], fun c y k x n => bn c y k x (by first | decide | omega), m2, Or.inl ⟨by rw [zup3_v, if_neg (by first | decide | omega)]; exact g1, by rw [zup3_v, if_pos (by first | decide | omega), z62]; omega, by rw [zup3_v, if_pos (by first | decide | omega)]; omega, by rw [zup3_v, if_pos (by first | decide | omega)]; omega, fun j j0 j1 => ?_⟩⟩
      rw [zup3_v, if_pos (by first | decide | omega)] at j1
      by_cases y : j = F 5 s 0
      · unfold SR
        rw [← g2] at n2 n3 n4 n5 n6 n7
        rw [y, v0', v1', v2', v3', v4', v5', n2, n3, n4, n5, n6, n7]
        exact ⟨⟨rfl, v0⟩, ⟨rfl, i0⟩, ⟨rfl, t0⟩, ⟨rfl, fb⟩, ⟨rfl, a0⟩, ⟨rfl, b1⟩, ab, vV⟩
      · have := g5 j j0 (by first | decide | omega)
        unfold SR at this ⊢
        rw [bn 5 s 340 j (by first | decide | omega), bn 5 s 341 j (by first | decide | omega), bn 5 s 342 j (by first | decide | omega), bn 5 s 343 j (by first | decide | omega), bn 5 s 344 j (by first | decide | omega), bn 5 s 345 j (by first | decide | omega), n1 63 j (by first | decide | omega), n1 64 j (by first | decide | omega), n1 65 j (by first | decide | omega), n1 66 j (by first | decide | omega), n1 67 j (by first | decide | omega), n1 68 j (by first | decide | omega)]
        exact this
    · rw [if_neg z]
      exact ⟨_, B, Bm', rfl, m1, fun c y k n => by rw [zup3_v, if_neg (by first | decide | omega)], fun _ _ _ _ _ => rfl, m2, Or.inr ⟨by rw [zup3_v, if_pos (by first | decide | omega)], by rw [zup3_v, if_neg (by first | decide | omega)]; omega, by rw [z62]; omega⟩⟩
  · rw [if_pos (by unfold r32; omega), if_neg (by first | decide | omega)]
    exact ⟨_, B, Bm', rfl, m1, fun c y k n => by rw [zup3_v, if_neg (by first | decide | omega)], fun _ _ _ _ _ => rfl, m2, Or.inr ⟨by rw [zup3_v, if_pos (by first | decide | omega)], by rw [zup3_v, if_neg (by first | decide | omega)]; omega, by rw [z62]; omega⟩⟩
end
end
section
section
/-! ===== how long a pitch sounds, both sides ===== -/
/-- behind the last event that holds the pitch on, as the reference goes on -/
def plT (K : Nat) (l7 l6 l1 l2 l3 l4 l5 : Int) (F : zF) (B : zB) : zO := if 0 ≤ l1 ∧ l1 < 3 then if 0 ≤ l6 ∧ l6 < 4000 then zbind (f_M_tick K (B 13 l1 14 l6) (B 13 l1 15 l6) F B) (fun r6 F6 B6 => zbind (f_M_endTick K l1 l7 F6 B6) (fun r7 F7 B7 => if 0 ≤ l7 ∧ l7 < 4000 then if r32 (zand (B7 13 l1 18 l7) 8) then (if (zand (B7 13 l1 18 l7) 8) ≤ 0 then f_M_plain_81 K (r7 - r6) r6 l7 l6 l1 l2 l3 l4 l5 0 F7 B7 else f_M_plain_81 K (r7 - r6) r6 l7 l6 l1 l2 l3 l4 l5 1 F7 B7) else none else none)) else none else none
theorem P_last {K : zK} {Km : Nat} {q u w l6 i s a : Int} {m : Nat} {g : Int → Int} {F : zF} {B : zB} {Fm : zF} {Bm : zB} (hK : 3002 ≤ K.1) (hKm : 3002 ≤ Km) (h : VS K q u w m g F B Bm) (rs : r32 s) (ra : r32 a) : ∀ (r n n' j : Nat), j + r + 1 = m → r < n → r < n' → 0 ≤ hpB (B 4 q 5 j) s a F B → ∃ J : Nat, j ≤ J ∧ J < m ∧ f_Performance_lastTied_28 K n j a s q F B = some ((J : Int), F, B) ∧ f_M_plain_13 Km n' (1000 * u + j) l6 w u i s a Fm Bm = plT Km (1000 * u + J) l6 w u i s a Fm Bm := by
  intro r
  induction r with
  | zero =>
    intro n n' j jr hn hn' hp
    obtain ⟨n, rfl⟩ : ∃ k, n = k + 1 := ⟨n - 1, (by first | decide | omega)⟩
    obtain ⟨n', rfl⟩ : ∃ k, n' = k + 1 := ⟨n' - 1, (by first | decide | omega)⟩
    have hL := L_tiesE (Fm := Fm) hKm h (i := j) (by first | decide | omega) rs ra
    obtain ⟨h4, w0, u0, hm, _, hV, _, _, hE⟩ := h
    obtain ⟨ej, _, _, _, _, _, tj⟩ := hE j (by first | decide | omega)
    have e7 := ej.2.2.2.2.2.2.2.1
    obtain ⟨y1, _, _⟩ := mkb_i e7.2.1 e7.2.2
    have nt : ¬ tieOn q j s a F B := fun t => by
      unfold TIk at tj
      have := t.1
      omega
    refine ⟨j, Nat.le_refl _, (by first | decide | omega), ?_, ?_⟩
    · rw [f_Performance_lastTied_28, if_pos h4, if_pos (by unfold r32; omega), hm.1, if_pos (by unfold r32; omega), if_pos (by first | decide | omega), f_Performance_lastTied_77]
    · rw [f_M_plain_13, hL.2 nt, zb_s, if_pos (by decide), if_pos rfl]
      rfl
  | succ r ih =>
    intro n n' j jr hn hn' hp
    obtain ⟨n, rfl⟩ : ∃ k, n = k + 1 := ⟨n - 1, (by first | decide | omega)⟩
    obtain ⟨n', rfl⟩ : ∃ k, n' = k + 1 := ⟨n' - 1, (by first | decide | omega)⟩
    have hL := L_tiesE (Fm := Fm) hKm h (i := j) (by first | decide | omega) rs ra
    have h' := h
    obtain ⟨h4, w0, u0, hm, _, hV, _, _, hE⟩ := h
    obtain ⟨ej, _, _, _, _, _, tj⟩ := hE j (by first | decide | omega)
    obtain ⟨en, _⟩ := hE (j + 1) (by first | decide | omega)
    have ec : ((j + 1 : Nat) : Int) = (j : Int) + 1 := by omega
    rw [ec] at en
    have hvj := hV j (by first | decide | omega) (by first | decide | omega)
    have hvn := hV ((j : Int) + 1) (by first | decide | omega) (by first | decide | omega)
    have b2 := hpB_b (s := s) (a := a) en
    rw [f_Performance_lastTied_28, if_pos h4, if_pos (show r32 ((j : Int) + 1) by unfold r32; omega), hm.1, if_pos (show r32 (m : Int) by unfold r32; omega), if_neg (show ¬ (m : Int) ≤ (j : Int) + 1 by omega), if_pos (show 0 ≤ (j : Int) ∧ (j : Int) < 200 by omega), if_pos hvj, C_has hvj, zb_s]
    by_cases t : tieOn q j s a F B
    · have ih' := ih n n' (j + 1) (by first | decide | omega) (by first | decide | omega) (by first | decide | omega) (by rw [ec]; exact t.2.2)
      rw [ec] at ih'
      obtain ⟨J, x1, x2, x3, x4⟩ := ih'
      refine ⟨J, (by first | decide | omega), x2, ?_, ?_⟩
      · rw [if_neg t.1, if_pos (by decide), if_neg (by decide), if_pos (by first | decide | omega), if_pos hvn, C_hpE hK hvn en rs ra, zb_s, if_neg (show ¬ hpB (B 4 q 5 ((j : Int) + 1)) s a F B < 0 by have := t.2.2; omega), if_pos (by decide), if_neg (by decide)]
        exact x3
      · rw [f_M_plain_13, hL.1 t, zb_s, if_pos (by decide), if_neg (by decide), show 1000 * u + (j : Int) + 1 = 1000 * u + ((j : Int) + 1) by omega]
        exact x4
    · refine ⟨j, Nat.le_refl _, (by first | decide | omega), ?_, ?_⟩
      · by_cases z : zand (F 1 (B 4 q 5 j) 7) 1 = 0
        · rw [if_pos z, if_pos (by decide), if_pos rfl, f_Performance_lastTied_77]
        · have x : hpB (B 4 q 5 ((j : Int) + 1)) s a F B < 0 := by
            rcases Int.lt_or_le (hpB (B 4 q 5 ((j : Int) + 1)) s a F B) 0 with x | x
            · exact x
            · exact absurd ⟨z, hp, x⟩ t
          rw [if_neg z, if_pos (by decide), if_neg (by decide), if_pos (by first | decide | omega), if_pos hvn, C_hpE hK hvn en rs ra, zb_s, if_pos x, if_pos (by decide), if_pos rfl, f_Performance_lastTied_77]
      · rw [f_M_plain_13, hL.2 t, zb_s, if_pos (by decide), if_pos rfl]
        rfl
/-- how long a sound of d ticks is held -/
def duV (m sl d : Int) : Int := if zand m 8 = 0 then (if zand m 32 = 0 ∧ sl = 0 then d - d / 8 else d) else if 1 < d / 2 then d / 2 else 1
theorem duV_b {m sl d : Int} (h : 0 < d) : 1 ≤ duV m sl d ∧ duV m sl d ≤ d := by
  unfold duV
  split
  · split <;> omega
  · split <;> omega
theorem C_dur {K : zK} {e d : Int} {F : zF} {B : zB} (he : 0 ≤ e ∧ e < K.2 1) (h0 : 0 < d) (h1 : d ≤ 1000000) (hs : F 1 e 11 = 0 ∨ F 1 e 11 = 1) : f_Performance_sounded K e d F B = some (duV (F 1 e 7) (F 1 e 11) d, F, B) := by
  have d8 : zdv d 8 = d / 8 := zdv_e (by first | decide | omega) (by unfold r32; omega) (by decide) (by decide)
  have d2 : zdv d 2 = d / 2 := zdv_e (by first | decide | omega) (by unfold r32; omega) (by decide) (by decide)
  unfold f_Performance_sounded f_Performance_sounded_33 f_Performance_sounded_43 duV
  rw [if_pos he, C_has he, zb_s]
  by_cases a : zand (F 1 e 7) 8 = 0
  · rw [if_pos a, if_pos (by decide), if_pos rfl, C_has he, zb_s, if_pos a]
    by_cases b : zand (F 1 e 7) 32 = 0
    · rw [if_pos b, if_pos (by decide), if_pos rfl, if_pos (by unfold r32; omega), d8]
      by_cases c : F 1 e 11 = 0
      · rw [if_pos c, if_pos ⟨b, c⟩]
      · rw [if_neg c, if_neg (fun z => c z.2)]
    · rw [if_neg b, if_pos (by decide), if_neg (by decide), if_neg (fun z => b z.1)]
  · rw [if_neg a, if_pos (by decide), if_neg (by decide), d2, if_pos (by unfold r32; omega), if_neg a]
    unfold zmax
    rfl
theorem L_81 {K : Nat} {d t X x w u i s a : Int} {F : zF} {B : zB} (w0 : 0 ≤ w ∧ w < 3) (hX : 0 ≤ X ∧ X < 4000) (hm : 0 ≤ B 13 w 18 X ∧ B 13 w 18 X < 128) (h27 : B 13 w 27 X = 0 ∨ B 13 w 27 X = 1) (d1 : -1000000 ≤ d ∧ d ≤ 1000000) : (if (zand (B 13 w 18 X) 8) ≤ 0 then f_M_plain_81 K d t X x w u i s a 0 F B else f_M_plain_81 K d t X x w u i s a 1 F B) = if d ≤ 0 then some (0, F, B) else zbind (f_M_tone K s a F B) (fun r27 F27 B27 => zbind (f_M_forceOf K w x F27 B27) (fun r28 F28 B28 => zbind (f_M_sound_1 K t (t + duV (B 13 w 18 X) (B 13 w 27 X) d) r27 r28 u i F28 B28) (fun _ F29 B29 => some (0, F29, B29)))) := by
  obtain ⟨m8, _, m32, _⟩ := mk8_i hm.1 hm.2
  have z2 := zdv_R d 2
  have h164 : ∀ y, f_M_plain_164 K d t x w u i s a y F B = if d ≤ 0 then some (0, F, B) else zbind (f_M_tone K s a F B) (fun r27 F27 B27 => zbind (f_M_forceOf K w x F27 B27) (fun r28 F28 B28 => zbind (f_M_sound_1 K t (t + y) r27 r28 u i F28 B28) (fun _ F29 B29 => some (0, F29, B29)))) := fun y => by
    unfold f_M_plain_164 f_M_plain_198
    rw [if_pos (by unfold r32; omega)]
  by_cases dz : d ≤ 0
  · -- nothing sounds, whatever the marks
    have k : ∀ y, f_M_plain_164 K d t x w u i s a y F B = some (0, F, B) := fun y => by rw [h164, if_pos dz]
    have k116 : ∀ l10 l11, l10 = 0 ∨ l10 = 1 → l11 = 0 ∨ l11 = 1 → f_M_plain_116 K l10 d t x w u i s a l11 F B = some (0, F, B) := fun l10 l11 h10 h11 => by
      unfold f_M_plain_116 f_M_plain_134
      rw [if_pos z2, k, k, k, k]
      rcases h10 with rfl | rfl <;> rcases h11 with rfl | rfl <;> simp [r32]
    rw [if_pos dz]
    unfold f_M_plain_81 f_M_plain_111 f_M_plain_115
    rw [k116 0 1 (Or.inl rfl) (Or.inr rfl), k116 0 0 (Or.inl rfl) (Or.inl rfl), k116 1 0 (Or.inr rfl) (Or.inl rfl), if_pos w0, if_pos hX, if_pos (zand_R _ _), if_pos (show r32 (B 13 w 27 X) by unfold r32; omega)]
    simp [r32]
  · have d8 : zdv d 8 = d / 8 := zdv_e (by first | decide | omega) (by unfold r32; omega) (by decide) (by decide)
    have d2 : zdv d 2 = d / 2 := zdv_e (by first | decide | omega) (by unfold r32; omega) (by decide) (by decide)
    have k116 : ∀ l10 l11, l10 = 0 ∨ l10 = 1 → l11 = 0 ∨ l11 = 1 → f_M_plain_116 K l10 d t x w u i s a l11 F B = f_M_plain_164 K d t x w u i s a (if l11 = 0 then (if l10 = 0 then d - d / 8 else if 1 < d / 2 then d / 2 else 1) else d) F B := fun l10 l11 h10 h11 => by
      unfold f_M_plain_116 f_M_plain_134
      rw [if_pos z2, d2, d8]
      by_cases c : d / 2 ≤ 1
      · rw [if_pos c, if_neg (show ¬ 1 < d / 2 by omega)]
        rcases h10 with rfl | rfl <;> rcases h11 with rfl | rfl <;> simp [r32]
      · rw [if_neg c, if_pos (show 1 < d / 2 by omega)]
        rcases h10 with rfl | rfl <;> rcases h11 with rfl | rfl <;> simp [r32]
    rw [if_neg dz]
    unfold f_M_plain_81 f_M_plain_111 f_M_plain_115
    rw [k116 0 1 (Or.inl rfl) (Or.inr rfl), k116 0 0 (Or.inl rfl) (Or.inl rfl), k116 1 0 (Or.inr rfl) (Or.inl rfl), if_pos w0, if_pos hX, if_pos (zand_R _ _), if_pos (show r32 (B 13 w 27 X) by unfold r32; omega), h164, h164, h164, if_neg dz, if_neg dz, if_neg dz]
    rcases m8 with a8 | a8 <;> rcases m32 with a32 | a32 <;> rcases h27 with c | c <;> simp [r32, duV, a8, a32, c]
theorem L_endT {K : zK} {Km : Nat} {q u w : Int} {m J : Nat} {g : Int → Int} {F : zF} {B : zB} {Fm : zF} {Bm : zB} (hKm : 812851200 < Km) (h : VS K q u w m g F B Bm) (hJ : J < m) : f_M_endTick Km w (1000 * u + J) Fm Bm = some (tk (sumZ g J + g J), fr Fm (sumZ g J + g J), Bm) ∧ 0 ≤ sumZ g J ∧ 1 ≤ g J ∧ sumZ g J + g J ≤ 1000000000000 := by
  obtain ⟨h4, w0, u0, hm, _, hV, hg, hs, hE⟩ := h
  obtain ⟨ej, q1, q2, q3, q4, _⟩ := hE J hJ
  have e5 := ej.2.2.2.2.1
  have s0 := sumZ_0 hg J (by first | decide | omega)
  have s1 := sumZ_m hg (m - J - 1) (J + 1) (by first | decide | omega)
  have s2 : sumZ g (J + 1) = sumZ g J + g J := rfl
  have gJ := hg J (by first | decide | omega) (by first | decide | omega)
  refine ⟨?_, s0, gJ, (by first | decide | omega)⟩
  unfold f_M_endTick
  rw [if_pos w0, if_pos (by first | decide | omega), q2, q3, e5.1, e5.2.1, q4, L_plusR hKm (FR_r s0) (FR_r (by first | decide | omega)) (by first | decide | omega), zb_s, fr_0, fr_1, L_tick (by first | decide | omega) (by first | decide | omega), zb_s]
end
end
section
section
/-! ===== one event's sounds, both sides ===== -/
theorem VS_e {K : zK} {q u w s : Int} {m : Nat} {g : Int → Int} {F F' : zF} {B B' Bm Bm' : zB} (h : VS K q u w m g F B Bm) (f : gaF s F F') (b : gaB s B B') (n : gaM Bm Bm') : VS K q u w m g F' B' Bm' := by
  have f4 : F' 4 = F 4 := by funext y k; exact f 4 y k (by first | decide | omega)
  have f1 : F' 1 = F 1 := by funext y k; exact f 1 y k (by first | decide | omega)
  have b4 : B' 4 = B 4 := by funext y k x; exact b 4 y k x (by first | decide | omega)
  have b1 : B' 1 = B 1 := by funext y k x; exact b 1 y k x (by first | decide | omega)
  have m13 : Bm' 13 = Bm 13 := by funext y k x; exact n 13 y k x (by first | decide | omega)
  unfold VS EVK EPR TIk at *
  rw [f4, f1, b4, b1, m13]
  exact h
theorem T61_e {Bm Bm' : zB} (h : T61 Bm) (n : gaM Bm Bm') : T61 Bm' := fun l l0 l1 => by rw [n 14 0 61 l (by first | decide | omega)]; exact h l l0 l1
/-- a pitch that begins at event i: what is added on both sides -/
theorem P_pit {K : zK} {Km : Nat} {V s q u w k : Int} {m i : Nat} {g : Int → Int} {F : zF} {B : zB} {Fm : zF} {Bm : zB} (hK : 3002 ≤ K.1) (hKm : 812851200 < Km) (hs : 0 ≤ s ∧ s < K.2 5) (uV : u < V) (h : VS K q u w m g F B Bm) (hT : T61 Bm) (hi : i < m) (k0 : 0 ≤ k) (k1 : k < F 1 (B 4 q 5 i) 10) (c0 : 0 ≤ Fm 14 0 62 ∧ Fm 14 0 62 ≤ 100000000) (hG : GA V s F B Fm Bm) : ∃ (J : Nat) (F' : zF) (B' : zB) (Fm' : zF) (Bm' : zB), J < m ∧ f_Performance_lastTied K q i k F B = some ((J : Int), F, B) ∧ f_M_plain Km w u i (Bm 13 w 28 (6 * (1000 * u + i) + k)) (Bm 13 w 29 (6 * (1000 * u + i) + k)) Fm Bm = some (0, Fm', Bm') ∧ gaF s F F' ∧ gaB s B B' ∧ gaG Fm Fm' ∧ gaM Bm Bm' ∧ GA V s F' B' Fm' Bm' ∧ (Fm 14 0 62 ≤ Fm' 14 0 62 ∧ Fm' 14 0 62 ≤ Fm 14 0 62 + 1) ∧ ((tk (sumZ g J + g J) - tk (sumZ g i) ≤ 0 ∧ F' = F ∧ B' = B) ∨ (0 < tk (sumZ g J + g J) - tk (sumZ g i) ∧ f_Performance_addSound K s u i (tnv (B 1 (B 4 q 5 i) 12 k) + B 1 (B 4 q 5 i) 13 k) (B 4 q 5 i) (tk (sumZ g i)) (tk (sumZ g i) + duV (F 1 (B 4 q 5 J) 7) (F 1 (B 4 q 5 J) 11) (tk (sumZ g J + g J) - tk (sumZ g i))) F B = some (0, F', B'))) := by
  have h' := h
  obtain ⟨h4, w0, u0, hm, h12, hV, hg, hsm, hE⟩ := h
  obtain ⟨ei, q1, q2, q3, q4, q5, _⟩ := hE i hi
  have ep := ei.2.2.2.2.2.2.2.2.2.2
  have c6 := ep.2.2.1
  obtain ⟨p1, p2, p3, p4⟩ := ep.2.2.2.1 k k0 k1
  have hie := hV i (by first | decide | omega) (by first | decide | omega)
  have s0 := sumZ_0 hg i (by first | decide | omega)
  have oi := hpB_i ei k0 k1
  obtain ⟨J, j1, j2, j3, j4⟩ := P_last (K := K) (Km := Km) (l6 := 1000 * u + i) (i := i) (s := B 1 (B 4 q 5 i) 12 k) (a := B 1 (B 4 q 5 i) 13 k) (Fm := Fm) hK (by first | decide | omega) h' (by unfold r32; omega) (by unfold r32; omega) (m - i - 1) K.1 Km i (by first | decide | omega) (by first | decide | omega) (by first | decide | omega) oi
  obtain ⟨eJ, _, _, _, J4, J5, _⟩ := hE J j2
  obtain ⟨t1, t2, t3, t4⟩ := L_endT (Fm := Fm) hKm h' j2
  have e7 := eJ.2.2.2.2.2.2.2.1
  have sm := sumZ_m hg (m - i - 1) (i + 1) (by first | decide | omega)
  have s2 : sumZ g (i + 1) = sumZ g i + g i := rfl
  have gi := hg i (by first | decide | omega) (by first | decide | omega)
  have tb := tk_b (show sumZ g J + g J ≤ 1000000000000 by omega)
  have ta := tk_b (show sumZ g i ≤ 1000000000000 by omega)
  have tc := tk_0 s0
  have td := tk_0 (show 0 ≤ sumZ g J + g J by omega)
  have cl : f_Performance_lastTied K q i k F B = some ((J : Int), F, B) := by
    unfold f_Performance_lastTied
    rw [if_pos h4, if_pos (by first | decide | omega), if_pos hie, if_pos (by first | decide | omega)]
    exact j3
  have hx : 0 ≤ 1000 * u + (i : Int) ∧ 1000 * u + (i : Int) < 4000 := by omega
  have hX : 0 ≤ 1000 * u + (J : Int) ∧ 1000 * u + (J : Int) < 4000 := by omega
  have tn := tnv_r p3.1 p3.2 p4.1 p4.2
  have e8 := ei.2.2.2.2.2.2.2.2.1
  have e7i := ei.2.2.2.2.2.2.2.1
  generalize hD : tk (sumZ g J + g J) - tk (sumZ g i) = D at *
  have mm : f_M_plain Km w u i (Bm 13 w 28 (6 * (1000 * u + i) + k)) (Bm 13 w 29 (6 * (1000 * u + i) + k)) Fm Bm = if D ≤ 0 then some (0, fr Fm (sumZ g J + g J), Bm) else zbind (f_M_sound_1 Km (tk (sumZ g i)) (tk (sumZ g i) + duV (F 1 (B 4 q 5 J) 7) (F 1 (B 4 q 5 J) 11) D) (tnv (B 1 (B 4 q 5 i) 12 k) + B 1 (B 4 q 5 i) 13 k) (foV (F 1 (B 4 q 5 i) 7) (F 1 (B 4 q 5 i) 8)) u i (fr Fm (sumZ g J + g J)) Bm) (fun _ F29 B29 => some (0, F29, B29)) := by
    unfold f_M_plain
    rw [← p1, ← p2, j4]
    unfold plT
    rw [if_pos w0, if_pos hx, q2, q3, L_tick s0 (by first | decide | omega), zb_s, t1, zb_s, if_pos hX, if_pos (zand_R _ _), L_81 w0 hX (by rw [← e7.1]; exact e7.2) (by rw [← J5.1]; exact J5.2) (by first | decide | omega), hD]
    by_cases z : D ≤ 0
    · rw [if_pos z, if_pos z]
    · rw [if_neg z, if_neg z, L_toneT p3.1 p3.2, zb_s, L_force hT w0 hx (by rw [← e7i.1]; exact e7i.2) (by rw [← e8.1]; exact e8.2), zb_s, ← e7.1, ← J5.1, ← e7i.1, ← e8.1]
  have c62 : fr Fm (sumZ g J + g J) 14 0 62 = Fm 14 0 62 := fr_n (by first | decide | omega)
  by_cases z : D ≤ 0
  · rw [if_pos z] at mm
    exact ⟨J, F, B, _, Bm, j2, cl, mm, fun _ _ _ _ => rfl, fun _ _ _ _ _ => rfl, fun c y k n => fr_n (by first | decide | omega), fun _ _ _ _ _ => rfl, GA_g hG c62, (by first | decide | omega), Or.inl ⟨(by first | decide | omega), rfl, rfl⟩⟩
  · rw [if_neg z] at mm
    have du := duV_b (m := F 1 (B 4 q 5 J) 7) (sl := F 1 (B 4 q 5 J) 11) (show 0 < D by omega)
    obtain ⟨F', B', Bm', a1, a2, a3, a4, a5, a6⟩ := P_addS (K := K) (Km := Km) (v := u) (i := i) (t := tnv (B 1 (B 4 q 5 i) 12 k) + B 1 (B 4 q 5 i) 13 k) (e := B 4 q 5 i) (a := tk (sumZ g i)) (b := tk (sumZ g i) + duV (F 1 (B 4 q 5 J) 7) (F 1 (B 4 q 5 J) 11) D) (Fm := fr Fm (sumZ g J + g J)) hs hie e8.2 u0 uV (by first | decide | omega) tn tc (by first | decide | omega) (by first | decide | omega) (by rw [c62]; exact c0) (GA_g hG c62)
    rw [a2, zb_s] at mm
    refine ⟨J, F', B', _, Bm', j2, cl, mm, a3, a4, fun c y k n => by rw [zup3_v, if_neg (by first | decide | omega), fr_n (by first | decide | omega)], a5, a6, by rw [zup3_v, if_pos (by first | decide | omega), c62]; omega, Or.inr ⟨(by first | decide | omega), by rw [hD]; exact a1⟩⟩
/-- an event whose pitches sound plainly -/
theorem P_sAll {K : zK} {Km : Nat} {V s q u w : Int} {m i : Nat} {g : Int → Int} {rec7 : Int → Int → zF → zB → zO} {rec : Int → Int → Int → zF → zB → zO} (hK : 3002 ≤ K.1) (hKm : 812851200 < Km) (hs : 0 ≤ s ∧ s < K.2 5) (uV : u < V) (hi : i < m) : ∀ (r n n' : Nat) {k : Int} {F : zF} {B : zB} {Fm : zF} {Bm : zB}, VS K q u w m g F B Bm → T61 Bm → k + r = F 1 (B 4 q 5 i) 10 → 0 ≤ k → r < n → r < n' → (¬ zand (F 1 (B 4 q 5 i) 7) 64 = 0 → F 1 (B 4 q 5 i) 10 = 1 → tieOn q i (B 1 (B 4 q 5 i) 12 0) (B 1 (B 4 q 5 i) 13 0) F B ∨ (0 < i ∧ tieOn q (i - 1) (B 1 (B 4 q 5 i) 12 0) (B 1 (B 4 q 5 i) 13 0) F B)) → 0 ≤ Fm 14 0 62 → Fm 14 0 62 + r ≤ 100000000 → GA V s F B Fm Bm → ∃ F' B' Fm' Bm', f_Performance_soundAll_21 K n k (tk (sumZ g i)) (B 4 q 5 i) s q u i F B = some (0, F', B') ∧ f_M_gather_39 rec7 rec Km n' k (1000 * u + i) i u w Fm Bm = rec (i + 1) u w Fm' Bm' ∧ gaF s F F' ∧ gaB s B B' ∧ gaG Fm Fm' ∧ gaM Bm Bm' ∧ GA V s F' B' Fm' Bm' ∧ Fm 14 0 62 ≤ Fm' 14 0 62 ∧ Fm' 14 0 62 ≤ Fm 14 0 62 + r := by
  intro r
  induction r with
  | zero =>
    intro n n' k F B Fm Bm h hT hk k0 hn hn' hNT c0 c1 hG
    obtain ⟨n, rfl⟩ : ∃ j, n = j + 1 := ⟨n - 1, (by first | decide | omega)⟩
    obtain ⟨n', rfl⟩ : ∃ j, n' = j + 1 := ⟨n' - 1, (by first | decide | omega)⟩
    obtain ⟨h4, w0, u0, hm, h12, hV, hg, hsm, hE⟩ := h
    obtain ⟨ei, _⟩ := hE i hi
    have ep := ei.2.2.2.2.2.2.2.2.2.2
    have hie := hV i (by first | decide | omega) (by first | decide | omega)
    refine ⟨F, B, Fm, Bm, ?_, ?_, fun _ _ _ _ => rfl, fun _ _ _ _ _ => rfl, fun _ _ _ _ => rfl, fun _ _ _ _ _ => rfl, hG, (by first | decide | omega), (by first | decide | omega)⟩
    · rw [f_Performance_soundAll_21, if_pos hie, if_pos (by have := ep.2.2.1; unfold r32; omega), if_pos (by have := ep.2.2.1; unfold r32; omega), if_pos (by first | decide | omega)]
    · rw [f_M_gather_39, if_pos w0, if_pos (by first | decide | omega), if_pos (by have := ep.2.2.1; unfold r32; omega), ep.2.1, if_pos (by have := ep.2.2.1; unfold r32; omega), if_pos (by first | decide | omega)]
  | succ r ih =>
    intro n n' k F B Fm Bm h hT hk k0 hn hn' hNT c0 c1 hG
    obtain ⟨n, rfl⟩ : ∃ j, n = j + 1 := ⟨n - 1, (by first | decide | omega)⟩
    obtain ⟨n', rfl⟩ : ∃ j, n' = j + 1 := ⟨n' - 1, (by first | decide | omega)⟩
    have h' := h
    obtain ⟨h4, w0, u0, hm, h12, hV, hg, hsm, hE⟩ := h
    obtain ⟨ei, q1, q2, q3, q4, q5, _⟩ := hE i hi
    have ep := ei.2.2.2.2.2.2.2.2.2.2
    have c6 := ep.2.2.1
    have k1 : k < F 1 (B 4 q 5 i) 10 := by omega
    obtain ⟨p1, p2, p3, p4⟩ := ep.2.2.2.1 k k0 k1
    have hie := hV i (by first | decide | omega) (by first | decide | omega)
    have e7 := ei.2.2.2.2.2.2.2.1
    obtain ⟨_, _, _, m64⟩ := mk8_i e7.2.1 e7.2.2
    have rk : r32 k := by unfold r32; omega
    have rc : r32 (F 1 (B 4 q 5 i) 10) := by unfold r32; omega
    have hx : 0 ≤ 1000 * u + (i : Int) ∧ 1000 * u + (i : Int) < 4000 := by omega
    have ri : r32 (i : Int) := by unfold r32; omega
    obtain ⟨fr1, fr0⟩ := C_from hK h' hi k0 k1
    have rs : r32 (B 1 (B 4 q 5 i) 12 k) := by unfold r32; omega
    have ra : r32 (B 1 (B 4 q 5 i) 13 k) := by unfold r32; omega
    -- what follows on both sides
    have go : ∀ {F1 : zF} {B1 : zB} {Fm1 : zF} {Bm1 : zB}, gaF s F F1 → gaB s B B1 → gaG Fm Fm1 → gaM Bm Bm1 → GA V s F1 B1 Fm1 Bm1 → Fm 14 0 62 ≤ Fm1 14 0 62 → Fm1 14 0 62 ≤ Fm 14 0 62 + 1 → ∃ F' B' Fm' Bm', f_Performance_soundAll_21 K n (k + 1) (tk (sumZ g i)) (B 4 q 5 i) s q u i F1 B1 = some (0, F', B') ∧ f_M_gather_39 rec7 rec Km n' (k + 1) (1000 * u + i) i u w Fm1 Bm1 = rec (i + 1) u w Fm' Bm' ∧ gaF s F F' ∧ gaB s B B' ∧ gaG Fm Fm' ∧ gaM Bm Bm' ∧ GA V s F' B' Fm' Bm' ∧ Fm 14 0 62 ≤ Fm' 14 0 62 ∧ Fm' 14 0 62 ≤ Fm 14 0 62 + ((r + 1 : Nat) : Int) := fun g1 g2 g3 g4 g5 g6 g7 => by
      have f1 : ∀ y k, _ := fun y k => g1 1 y k (by first | decide | omega)
      have b4 : ∀ y k x, _ := fun y k x => g2 4 y k x (by first | decide | omega)
      have b1 : ∀ y k x, _ := fun y k x => g2 1 y k x (by first | decide | omega)
      have e1 := ih n n' (k := k + 1) (VS_e h' g1 g2 g4) (T61_e hT g4) (by rw [b4, f1]; omega) (by first | decide | omega) (by first | decide | omega) (by first | decide | omega) (by
        unfold tieOn hpB at hNT ⊢
        simp only [b4, f1, show ∀ y k, _ = _ from fun y k => (funext (b1 y k))]
        exact hNT) (by first | decide | omega) (by first | decide | omega) g5
      rw [b4] at e1
      obtain ⟨F', B', Fm', Bm', x1, x2, x3, x4, x5, x6, x7, x8, x9⟩ := e1
      exact ⟨F', B', Fm', Bm', x1, x2, gaF_t g1 x3, gaB_t g2 x4, gaG_t g3 x5, gaM_t g4 x6, x7, (by first | decide | omega), (by first | decide | omega)⟩
    -- the reference: is the pitch held over from the event ahead?
    have mT : ((0 < i ∧ tieOn q (i - 1) (B 1 (B 4 q 5 i) 12 k) (B 1 (B 4 q 5 i) 13 k) F B) → f_M_gather_39 rec7 rec Km (n' + 1) k (1000 * u + i) i u w Fm Bm = f_M_gather_39 rec7 rec Km n' (k + 1) (1000 * u + i) i u w Fm Bm) ∧ (¬ (0 < i ∧ tieOn q (i - 1) (B 1 (B 4 q 5 i) 12 k) (B 1 (B 4 q 5 i) 13 k) F B) → f_M_gather_39 rec7 rec Km (n' + 1) k (1000 * u + i) i u w Fm Bm = f_M_gather_103 rec7 rec (f_M_gather_39 rec7 rec Km n') Km (Bm 13 w 29 (6 * (1000 * u + i) + k)) (Bm 13 w 28 (6 * (1000 * u + i) + k)) k (1000 * u + i) i u w Fm Bm) := by
      rw [f_M_gather_39, if_pos w0, if_pos hx, if_pos rk, ep.2.1, if_pos rc, if_neg (by first | decide | omega), if_pos (by first | decide | omega), if_pos ri]
      by_cases z : (i : Int) ≤ 0
      · rw [if_pos z]
        exact ⟨fun t => (by first | decide | omega), fun _ => rfl⟩
      · obtain ⟨j, hj⟩ : ∃ j, i = j + 1 := ⟨i - 1, (by first | decide | omega)⟩
        have hL := L_tiesE (Km := Km) (Fm := Fm) (by first | decide | omega) h' (i := j) (by first | decide | omega) rs ra
        have ej : (i : Int) - 1 = (j : Int) := by omega
        rw [if_neg z, show 1000 * u + (i : Int) - 1 = 1000 * u + (j : Int) by omega, ← p1, ← p2, ej]
        by_cases y : tieOn q j (B 1 (B 4 q 5 i) 12 k) (B 1 (B 4 q 5 i) 13 k) F B
        · rw [hL.1 y, zb_s, if_pos (by decide), if_neg (by decide), f_M_gather_177]
          exact ⟨fun _ => rfl, fun t => absurd ⟨(by first | decide | omega), y⟩ t⟩
        · rw [hL.2 y, zb_s, if_pos (by decide), if_pos rfl]
          exact ⟨fun t => absurd t.2 y, fun _ => rfl⟩
    rw [f_Performance_soundAll_21, if_pos hie, if_pos rk, if_pos rc, if_neg (by first | decide | omega), if_pos h4]
    by_cases t : 0 < i ∧ tieOn q (i - 1) (B 1 (B 4 q 5 i) 12 k) (B 1 (B 4 q 5 i) 13 k) F B
    · rw [mT.1 t, fr1 t, zb_s, if_pos (by decide), if_neg (by decide), f_Performance_soundAll_106]
      exact go (fun _ _ _ _ => rfl) (fun _ _ _ _ _ => rfl) (fun _ _ _ _ => rfl) (fun _ _ _ _ _ => rfl) hG (by first | decide | omega) (by first | decide | omega)
    · rw [mT.2 t, fr0 t, zb_s, if_pos (by decide), if_pos rfl]
      have hL := L_tiesE (Km := Km) (Fm := Fm) (by first | decide | omega) h' hi rs ra
      -- the reference takes the plain way
      have m103 : f_M_gather_103 rec7 rec (f_M_gather_39 rec7 rec Km n') Km (Bm 13 w 29 (6 * (1000 * u + i) + k)) (Bm 13 w 28 (6 * (1000 * u + i) + k)) k (1000 * u + i) i u w Fm Bm = zbind (f_M_plain Km w u i (Bm 13 w 28 (6 * (1000 * u + i) + k)) (Bm 13 w 29 (6 * (1000 * u + i) + k)) Fm Bm) (fun _ F34 B34 => f_M_gather_39 rec7 rec Km n' (k + 1) (1000 * u + i) i u w F34 B34) := by
        unfold f_M_gather_103 f_M_gather_144 f_M_gather_145 f_M_gather_177
        rw [if_pos w0, if_pos hx, if_pos (zand_R _ _), ← e7.1, ep.2.1, if_pos rc]
        by_cases z : zand (F 1 (B 4 q 5 i) 7) 64 = 0
        · rw [if_pos (show zand (F 1 (B 4 q 5 i) 7) 64 ≤ 0 by omega), if_pos (by decide), if_pos rfl]
        · rw [if_neg (show ¬ zand (F 1 (B 4 q 5 i) 7) 64 ≤ 0 by omega)]
          by_cases y : F 1 (B 4 q 5 i) 10 = 1
          · have kz : k = 0 := by omega
            have ty : tieOn q i (B 1 (B 4 q 5 i) 12 k) (B 1 (B 4 q 5 i) 13 k) F B := by
              have := hNT z y
              rw [kz] at t ⊢
              rcases this with a | a
              · exact a
              · exact absurd a t
            rw [if_pos y, ← p1, ← p2, hL.1 ty, zb_s, if_pos (by decide), if_neg (by decide), if_pos (by decide), if_pos rfl]
          · rw [if_neg y, if_pos (by decide), if_pos rfl]
      obtain ⟨J, F1, B1, Fm1, Bm1, j2, l1, l2, g1, g2, g3, g4, g5, g6, g7⟩ := P_pit hK hKm hs uV h' hT hi k0 k1 ⟨c0, (by first | decide | omega)⟩ hG
      rw [m103, l2, zb_s, l1, zb_s]
      have hJ := hV J (by first | decide | omega) (by first | decide | omega)
      obtain ⟨eJ, J1, J2, J3, J4, J5, _⟩ := hE J j2
      obtain ⟨_, t2, t3, t4⟩ := L_endT (Fm := Fm) hKm h' j2
      have tb := tk_b (show sumZ g J + g J ≤ 1000000000000 by omega)
      have td := tk_0 (show 0 ≤ sumZ g J + g J by omega)
      have s0 := sumZ_0 hg i (by first | decide | omega)
      have sm := sumZ_m hg (m - i - 1) (i + 1) (by first | decide | omega)
      have s2 : sumZ g (i + 1) = sumZ g i + g i := rfl
      have gi := hg i (by first | decide | omega) (by first | decide | omega)
      have ta := tk_b (show sumZ g i ≤ 1000000000000 by omega)
      have tc := tk_0 s0
      rw [if_pos (show 0 ≤ (J : Int) ∧ (J : Int) < 200 by omega), if_pos hJ, J1, J4, C_tick (by first | decide | omega) (by first | decide | omega), zb_s, if_pos (by unfold r32; omega)]
      rcases g7 with ⟨d0, rfl, rfl⟩ | ⟨d0, ad⟩
      · rw [if_pos d0, f_Performance_soundAll_106]
        exact go g1 g2 g3 g4 g5 g6.1 g6.2
      · rw [if_neg (by first | decide | omega), C_tone hie (by first | decide | omega) p3, zb_s, C_dur hJ d0 (by first | decide | omega) J5.2, zb_s, if_pos hs, ad, zb_s, f_Performance_soundAll_106]
        exact go g1 g2 g3 g4 g5 g6.1 g6.2
end
end
section
section
/-! ===== trills, both sides ===== -/
/-- the reference's trill, alone -/
theorem L_trR {Km : Nat} {up ba en x w u i fo : Int} {B0 : zB} (hf : ∀ F B, gaM B0 B → f_M_forceOf Km w x F B = some (fo, F, B)) (e0 : 0 ≤ en) (e1 : en ≤ 500000) : ∀ (r n : Nat) {l b : Int} {F : zF} {B : zB}, gaM B0 B → en ≤ l + 12 * r → r < n → 0 ≤ l → l ≤ 500012 → (b = 0 ∨ b = 1) → 0 ≤ F 14 0 62 → F 14 0 62 + r ≤ 100000000 → ∃ F' B', f_M_trill_88 Km n l b up ba en x w u i F B = some (0, F', B') ∧ gaG F F' ∧ gaM B B' ∧ F 14 0 62 ≤ F' 14 0 62 ∧ F' 14 0 62 ≤ F 14 0 62 + r := by
  intro r
  induction r with
  | zero =>
    intro n l b F B hg hl hn l0 l1 hb c0 c1
    obtain ⟨n, rfl⟩ : ∃ j, n = j + 1 := ⟨n - 1, (by first | decide | omega)⟩
    refine ⟨F, B, ?_, fun _ _ _ _ => rfl, fun _ _ _ _ _ => rfl, (by first | decide | omega), (by first | decide | omega)⟩
    rw [f_M_trill_88, if_pos (by unfold r32; omega), if_pos (by unfold r32; omega), if_pos (by first | decide | omega)]
  | succ r ih =>
    intro n l b F B hg hl hn l0 l1 hb c0 c1
    obtain ⟨n, rfl⟩ : ∃ j, n = j + 1 := ⟨n - 1, (by first | decide | omega)⟩
    rw [f_M_trill_88, if_pos (by unfold r32; omega), if_pos (by unfold r32; omega)]
    by_cases z : en ≤ l
    · rw [if_pos z]
      exact ⟨F, B, rfl, fun _ _ _ _ => rfl, fun _ _ _ _ _ => rfl, (by first | decide | omega), (by first | decide | omega)⟩
    · rw [if_neg z, if_pos (by unfold r32; omega)]
      have st : ∀ (e t : Int), l < e → e ≤ 500012 → ∃ F' B', f_M_trill_130 (f_M_trill_88 Km n) Km l b up ba en x w u i l e t F B = some (0, F', B') ∧ gaG F F' ∧ gaM B B' ∧ F 14 0 62 ≤ F' 14 0 62 ∧ F' 14 0 62 ≤ F 14 0 62 + ((r + 1 : Nat) : Int) := fun e t le e5 => by
        obtain ⟨B1, m1, m2, _⟩ := L_snd (K := Km) (t := t) (fo := fo) (v := u) (i := i) (F := F) (B := B) le l0 (by first | decide | omega) c0 (by first | decide | omega)
        unfold f_M_trill_130 f_M_trill_152
        rw [hf F B hg, zb_s, m1, zb_s]
        have z62 : (zup3 F 14 0 62 (F 14 0 62 + 1)) 14 0 62 = F 14 0 62 + 1 := by rw [zup3_v, if_pos (by first | decide | omega)]
        have key : ∀ b', (b' = 0 ∨ b' = 1) → ∃ F' B', f_M_trill_88 Km n (l + 12) b' up ba en x w u i (zup3 F 14 0 62 (F 14 0 62 + 1)) B1 = some (0, F', B') ∧ gaG F F' ∧ gaM B B' ∧ F 14 0 62 ≤ F' 14 0 62 ∧ F' 14 0 62 ≤ F 14 0 62 + ((r + 1 : Nat) : Int) := fun b' hb' => by
          obtain ⟨F', B', x1, x2, x3, x4, x5⟩ := ih n (l := l + 12) (b := b') (F := zup3 F 14 0 62 (F 14 0 62 + 1)) (B := B1) (gaM_t hg m2) (by first | decide | omega) (by first | decide | omega) (by first | decide | omega) (by first | decide | omega) hb' (by rw [z62]; omega) (by rw [z62]; omega)
          rw [z62] at x4 x5
          exact ⟨F', B', x1, gaG_t (fun c y k n => by rw [zup3_v, if_neg (by first | decide | omega)]) x2, gaM_t m2 x3, (by first | decide | omega), (by first | decide | omega)⟩
        rcases hb with rfl | rfl
        · rw [if_pos (by decide), if_pos rfl]; exact key 1 (Or.inr rfl)
        · rw [if_pos (by decide), if_neg (by decide)]; exact key 0 (Or.inl rfl)
      unfold f_M_trill_118
      by_cases y : en ≤ l + 12
      · rw [if_pos y]
        rcases hb with rfl | rfl
        · rw [if_pos (by decide), if_pos rfl]; exact st en ba (by first | decide | omega) (by first | decide | omega)
        · rw [if_pos (by decide), if_neg (by decide)]; exact st en up (by first | decide | omega) (by first | decide | omega)
      · rw [if_neg y]
        rcases hb with rfl | rfl
        · rw [if_pos (by decide), if_pos rfl]; exact st (l + 12) ba (by first | decide | omega) (by first | decide | omega)
        · rw [if_pos (by decide), if_neg (by decide)]; exact st (l + 12) up (by first | decide | omega) (by first | decide | omega)
/-- both sides' trills -/
theorem P_tr {K : zK} {Km : Nat} {V s up ba en e x w u i : Int} {F0 : zF} {B0 : zB} (hs : 0 ≤ s ∧ s < K.2 5) (he : 0 ≤ e ∧ e < K.2 1) (hl8 : 0 ≤ F0 1 e 8 ∧ F0 1 e 8 ≤ 7) (u0 : 0 ≤ u ∧ u < 4) (uV : u < V) (i0 : 0 ≤ i ∧ i < 200) (hup : 0 ≤ up ∧ up ≤ 127) (hba : 0 ≤ ba ∧ ba ≤ 127) (hf : ∀ F B, gaM B0 B → f_M_forceOf Km w x F B = some (foV (F0 1 e 7) (F0 1 e 8), F, B)) (e0 : 0 ≤ en) (e1 : en ≤ 500000) : ∀ (r n n' : Nat) {l b : Int} {F : zF} {B : zB} {Fm : zF} {Bm : zB}, gaF s F0 F → gaM B0 Bm → en ≤ l + 12 * r → r < n' → (0 < n ∧ (F 5 s 1 = 0 → 2002 - F 5 s 0 < n)) → 0 ≤ l → l ≤ 500012 → (b = 0 ∨ b = 1) → 0 ≤ Fm 14 0 62 → Fm 14 0 62 + r ≤ 100000000 → GA V s F B Fm Bm → ∃ F' B' Fm' Bm', f_Performance_trill_93 K n l b up ba en e s u i F B = some (0, F', B') ∧ f_M_trill_88 Km n' l b up ba en x w u i Fm Bm = some (0, Fm', Bm') ∧ gaF s F F' ∧ gaB s B B' ∧ gaG Fm Fm' ∧ gaM Bm Bm' ∧ GA V s F' B' Fm' Bm' ∧ Fm 14 0 62 ≤ Fm' 14 0 62 ∧ Fm' 14 0 62 ≤ Fm 14 0 62 + r := by
  intro r
  induction r with
  | zero =>
    intro n n' l b F B Fm Bm gf gm hl hn' hn l0 l1 hb c0 c1 hG
    have hn0 : 0 < n := hn.1
    obtain ⟨n, rfl⟩ : ∃ j, n = j + 1 := ⟨n - 1, (by first | decide | omega)⟩
    obtain ⟨n', rfl⟩ : ∃ j, n' = j + 1 := ⟨n' - 1, (by first | decide | omega)⟩
    refine ⟨F, B, Fm, Bm, ?_, ?_, fun _ _ _ _ => rfl, fun _ _ _ _ _ => rfl, fun _ _ _ _ => rfl, fun _ _ _ _ _ => rfl, hG, (by first | decide | omega), (by first | decide | omega)⟩
    · rw [f_Performance_trill_93, if_pos (by unfold r32; omega), if_pos (by unfold r32; omega), if_pos (by first | decide | omega), f_Performance_trill_157]
    · rw [f_M_trill_88, if_pos (by unfold r32; omega), if_pos (by unfold r32; omega), if_pos (by first | decide | omega)]
  | succ r ih =>
    intro n n' l b F B Fm Bm gf gm hl hn' hn l0 l1 hb c0 c1 hG
    have hn0 : 0 < n := hn.1
    obtain ⟨n, rfl⟩ : ∃ j, n = j + 1 := ⟨n - 1, (by first | decide | omega)⟩
    have hG' := hG
    rcases hG with ⟨g1, g2, g3, g4, g5⟩ | ⟨g1, g2, g3⟩
    · -- a place is left, or just none
      obtain ⟨n', rfl⟩ : ∃ j, n' = j + 1 := ⟨n' - 1, (by first | decide | omega)⟩
      rw [f_Performance_trill_93, if_pos (show r32 l by unfold r32; omega), if_pos (show r32 en by unfold r32; omega), f_M_trill_88, if_pos (show r32 l by unfold r32; omega), if_pos (show r32 en by unfold r32; omega)]
      by_cases z : en ≤ l
      · rw [if_pos z, if_pos z, f_Performance_trill_157]
        exact ⟨F, B, Fm, Bm, rfl, rfl, fun _ _ _ _ => rfl, fun _ _ _ _ _ => rfl, fun _ _ _ _ => rfl, fun _ _ _ _ _ => rfl, hG', (by first | decide | omega), (by first | decide | omega)⟩
      · rw [if_neg z, if_neg z, if_pos hs, g1, if_pos (by decide), if_pos rfl, if_pos (show r32 (l + 12) by unfold r32; omega)]
        have f18 : F 1 e 8 = F0 1 e 8 := gf 1 e 8 (by first | decide | omega)
        have f17 : F 1 e 7 = F0 1 e 7 := gf 1 e 7 (by first | decide | omega)
        have zm : zmin (l + 12) en = if en ≤ l + 12 then en else l + 12 := by
          unfold zmin
          by_cases y : en ≤ l + 12
          · rw [if_pos y]; split <;> omega
          · rw [if_neg y, if_neg (by first | decide | omega)]
        have z62 : (zup3 Fm 14 0 62 (Fm 14 0 62 + 1)) 14 0 62 = Fm 14 0 62 + 1 := by rw [zup3_v, if_pos (by first | decide | omega)]
        -- one sound, and on
        have st : ∀ (t : Int), 0 ≤ t → t ≤ 127 → ∃ F' B' Fm' Bm', f_Performance_trill_122 (f_Performance_trill_93 K n) K l b up ba en e s u i s u i t F B = some (0, F', B') ∧ f_M_trill_130 (f_M_trill_88 Km n') Km l b up ba en x w u i l (if en ≤ l + 12 then en else l + 12) t Fm Bm = some (0, Fm', Bm') ∧ gaF s F F' ∧ gaB s B B' ∧ gaG Fm Fm' ∧ gaM Bm Bm' ∧ GA V s F' B' Fm' Bm' ∧ Fm 14 0 62 ≤ Fm' 14 0 62 ∧ Fm' 14 0 62 ≤ Fm 14 0 62 + ((r + 1 : Nat) : Int) := fun t t0 t1 => by
          obtain ⟨F1, B1, Bm1, a1, a2, a3, a4, a5, a6⟩ := P_addS (K := K) (Km := Km) (v := u) (i := i) (t := t) (e := e) (a := l) (b := if en ≤ l + 12 then en else l + 12) hs he (by rw [f18]; exact hl8) u0 uV i0 ⟨t0, t1⟩ l0 (by split <;> omega) (by split <;> omega) ⟨c0, (by first | decide | omega)⟩ hG'
          unfold f_Performance_trill_122 f_Performance_trill_149 f_M_trill_130 f_M_trill_152
          rw [f17, f18] at a2
          rw [if_pos hs, if_pos he, if_pos (show r32 (l + 12) by unfold r32; omega), if_pos (show r32 en by unfold r32; omega), zm, a1, zb_s, hf Fm Bm gm, zb_s, a2, zb_s]
          have cnt : 0 < n ∧ (F1 5 s 1 = 0 → 2002 - F1 5 s 0 < n) := by
            have hn2 := hn.2 g1
            rcases a6 with ⟨x1, x2, _⟩ | ⟨x1, x2, _⟩
            · rw [z62] at x2
              omega
            · have : F 5 s 0 = 2000 := by
                by_cases y : F 5 s 0 < 2000
                · exfalso
                  have := a1
                  unfold f_Performance_addSound at this
                  rw [if_pos hs, if_pos (by unfold r32; omega), if_pos y, if_pos (by first | decide | omega), C_force he (by rw [f18]; exact hl8), zb_s, if_pos (by first | decide | omega)] at this
                  injection this with this
                  injection this with _ this
                  injection this with this _
                  rw [← this, zup3_v, if_neg (by first | decide | omega)] at x1
                  omega
                · omega
              omega
          have key : ∀ b', (b' = 0 ∨ b' = 1) → ∃ F' B' Fm' Bm', f_Performance_trill_93 K n (l + 12) b' up ba en e s u i F1 B1 = some (0, F', B') ∧ f_M_trill_88 Km n' (l + 12) b' up ba en x w u i (zup3 Fm 14 0 62 (Fm 14 0 62 + 1)) Bm1 = some (0, Fm', Bm') ∧ gaF s F F' ∧ gaB s B B' ∧ gaG Fm Fm' ∧ gaM Bm Bm' ∧ GA V s F' B' Fm' Bm' ∧ Fm 14 0 62 ≤ Fm' 14 0 62 ∧ Fm' 14 0 62 ≤ Fm 14 0 62 + ((r + 1 : Nat) : Int) := fun b' hb' => by
            obtain ⟨F', B', Fm', Bm', x1, x2, x3, x4, x5, x6, x7, x8, x9⟩ := ih n n' (l := l + 12) (b := b') (F := F1) (B := B1) (Fm := zup3 Fm 14 0 62 (Fm 14 0 62 + 1)) (Bm := Bm1) (gaF_t gf a3) (gaM_t gm a5) (by first | decide | omega) (by first | decide | omega) cnt (by first | decide | omega) (by first | decide | omega) hb' (by rw [z62]; omega) (by rw [z62]; omega) a6
            rw [z62] at x8 x9
            exact ⟨F', B', Fm', Bm', x1, x2, gaF_t a3 x3, gaB_t a4 x4, gaG_t (fun c y k n => by rw [zup3_v, if_neg (by first | decide | omega)]) x5, gaM_t a5 x6, x7, (by first | decide | omega), (by first | decide | omega)⟩
          rcases hb with rfl | rfl
          · rw [if_pos (by decide), if_pos rfl, if_pos (by decide), if_pos rfl]; exact key 1 (Or.inr rfl)
          · rw [if_pos (by decide), if_neg (by decide), if_pos (by decide), if_neg (by decide)]; exact key 0 (Or.inl rfl)
        have m118 : (if en ≤ l + 12 then f_M_trill_118 (f_M_trill_88 Km n') Km l b up ba en x w u i l en Fm Bm else f_M_trill_118 (f_M_trill_88 Km n') Km l b up ba en x w u i l (l + 12) Fm Bm) = f_M_trill_118 (f_M_trill_88 Km n') Km l b up ba en x w u i l (if en ≤ l + 12 then en else l + 12) Fm Bm := by
          by_cases y : en ≤ l + 12
          · rw [if_pos y, if_pos y]
          · rw [if_neg y, if_neg y]
        rw [m118]
        unfold f_M_trill_118
        rcases hb with rfl | rfl
        · rw [if_pos (by decide), if_pos rfl, if_pos (by decide), if_pos rfl]; exact st ba hba.1 hba.2
        · rw [if_pos (by decide), if_neg (by decide), if_pos (by decide), if_neg (by decide)]; exact st up hup.1 hup.2
    · -- too many already
      obtain ⟨Fm', Bm', m1, m2, m3, m4, m5⟩ := L_trR hf e0 e1 (r + 1) n' (up := up) (ba := ba) (l := l) (b := b) (F := Fm) (B := Bm) gm hl hn' l0 l1 hb c0 c1
      refine ⟨F, B, Fm', Bm', ?_, m1, fun _ _ _ _ => rfl, fun _ _ _ _ _ => rfl, m2, m3, Or.inr ⟨g1, g2, (by first | decide | omega)⟩, m4, m5⟩
      rw [f_Performance_trill_93, if_pos (show r32 l by unfold r32; omega), if_pos (show r32 en by unfold r32; omega)]
      by_cases z : en ≤ l
      · rw [if_pos z, f_Performance_trill_157]
      · rw [if_neg z, if_pos hs, g1, if_pos (by decide), if_neg (by decide), f_Performance_trill_157]
end
end
section
section
/-! ===== all sounds of a piece gathered, both sides ===== -/
/-- event i is trilled -/
def trE (q : Int) (i : Nat) (F : zF) (B : zB) : Prop := ¬ zand (F 1 (B 4 q 5 i) 7) 64 = 0 ∧ F 1 (B 4 q 5 i) 10 = 1 ∧ ¬ tieOn q i (B 1 (B 4 q 5 i) 12 0) (B 1 (B 4 q 5 i) 13 0) F B ∧ ¬ (0 < i ∧ tieOn q (i - 1) (B 1 (B 4 q 5 i) 12 0) (B 1 (B 4 q 5 i) 13 0) F B)
theorem C_isTr {K : zK} {q u w : Int} {m i : Nat} {g : Int → Int} {F : zF} {B Bm : zB} (hK : 3002 ≤ K.1) (h : VS K q u w m g F B Bm) (hi : i < m) : (trE q i F B → f_Performance_isTrilled K q i F B = some (1, F, B)) ∧ (¬ trE q i F B → f_Performance_isTrilled K q i F B = some (0, F, B)) := by
  have h' := h
  obtain ⟨h4, w0, u0, hm, h12, hV, hg, hsm, hE⟩ := h
  obtain ⟨ei, q1, q2, q3, q4, q5, ti⟩ := hE i hi
  have ep := ei.2.2.2.2.2.2.2.2.2.2
  have c6 := ep.2.2.1
  have hie := hV i (by first | decide | omega) (by first | decide | omega)
  unfold f_Performance_isTrilled f_Performance_isTrilled_45 f_Performance_isTrilled_46 trE
  rw [if_pos h4, if_pos (by first | decide | omega), if_pos hie, C_has hie, zb_s]
  by_cases z : zand (F 1 (B 4 q 5 i) 7) 64 = 0
  · rw [if_pos z, if_pos (by decide), if_pos rfl, if_pos (Or.inl rfl)]
    exact ⟨fun t => absurd z t.1, fun _ => rfl⟩
  · rw [if_neg z, if_pos (by decide), if_neg (by decide), if_pos (by unfold r32; omega)]
    by_cases y : F 1 (B 4 q 5 i) 10 = 1
    · rw [if_pos y]
      have tp : ∃ r, f_Part_tiedPitches K q i F B = some (r, F, B) ∧ r32 r ∧ (r = 0 ↔ ¬ tieOn q i (B 1 (B 4 q 5 i) 12 0) (B 1 (B 4 q 5 i) 13 0) F B) := by
        have e7 := ei.2.2.2.2.2.2.2.1
        obtain ⟨y1, _, _⟩ := mkb_i e7.2.1 e7.2.2
        unfold f_Part_tiedPitches f_Part_tiedPitches_27
        rw [if_pos (by unfold r32; omega), if_neg (by first | decide | omega), if_pos h4, if_pos (by unfold r32; omega), hm.1, if_pos (by unfold r32; omega)]
        by_cases a : (m : Int) ≤ (i : Int) + 1
        · rw [if_pos a]
          refine ⟨0, rfl, by decide, ⟨fun _ t => ?_, fun _ => rfl⟩⟩
          unfold TIk at ti
          have := t.1
          omega
        · rw [if_neg a, if_pos (by first | decide | omega), if_pos hie, C_has hie, zb_s]
          by_cases b : zand (F 1 (B 4 q 5 i) 7) 1 = 0
          · rw [if_pos b, if_pos (by decide), if_pos rfl]
            exact ⟨0, rfl, by decide, ⟨fun _ t => t.1 b, fun _ => rfl⟩⟩
          · have ec : ((i + 1 : Nat) : Int) = (i : Int) + 1 := by omega
            obtain ⟨en, _⟩ := hE (i + 1) (by first | decide | omega)
            rw [ec] at en
            have hne := hV ((i : Int) + 1) (by first | decide | omega) (by first | decide | omega)
            have epn := en.2.2.2.2.2.2.2.2.2.2
            rw [if_neg b, if_pos (by decide), if_neg (by decide), if_pos (by first | decide | omega), if_pos hie, if_pos hne, C_shared hK hie hne rfl c6 rfl epn.2.2.1 (fun k k0 k1 => by have := ep.2.2.2.1 k k0 k1; unfold r32; omega) (fun k k0 k1 => by have := epn.2.2.2.1 k k0 k1; unfold r32; omega), zb_s]
            have v : shM (shB (B 4 q 5 i) (B 4 q 5 ((i : Int) + 1)) (F 1 (B 4 q 5 ((i : Int) + 1)) 10) B) (F 1 (B 4 q 5 i) 10).toNat = if 0 ≤ hpB (B 4 q 5 ((i : Int) + 1)) (B 1 (B 4 q 5 i) 12 0) (B 1 (B 4 q 5 i) 13 0) F B then 1 else 0 := by
              rw [y]
              show shM _ 1 = _
              unfold shM shM shB hpB
              by_cases c : 0 ≤ fP (B 1 (B 4 q 5 ((i : Int) + 1)) 12) (B 1 (B 4 q 5 ((i : Int) + 1)) 13) (F 1 (B 4 q 5 ((i : Int) + 1)) 10) (B 1 (B 4 q 5 i) 12 0) (B 1 (B 4 q 5 i) 13 0) 7 0
              · simp [c]
              · simp [c]
            rw [v]
            by_cases c : 0 ≤ hpB (B 4 q 5 ((i : Int) + 1)) (B 1 (B 4 q 5 i) 12 0) (B 1 (B 4 q 5 i) 13 0) F B
            · rw [if_pos c]
              exact ⟨1, rfl, by decide, ⟨fun t => absurd t (by decide), fun t => absurd ⟨b, hpB_i ei (by decide) (by first | decide | omega), c⟩ t⟩⟩
            · rw [if_neg c]
              exact ⟨0, rfl, by decide, ⟨fun _ t => c t.2.2, fun _ => rfl⟩⟩
      obtain ⟨r, t1, t2, t3⟩ := tp
      rw [t1, zb_s, if_pos t2]
      by_cases a : r = 0
      · rw [if_pos a]
        obtain ⟨f1, f0⟩ := C_from hK h' hi (k := 0) (by decide) (by first | decide | omega)
        by_cases b : 0 < i ∧ tieOn q (i - 1) (B 1 (B 4 q 5 i) 12 0) (B 1 (B 4 q 5 i) 13 0) F B
        · rw [f1 b, zb_s, if_pos (by decide), if_neg (by decide), if_pos (Or.inl rfl)]
          exact ⟨fun t => absurd b t.2.2.2, fun _ => rfl⟩
        · rw [f0 b, zb_s, if_pos (by decide), if_pos rfl, if_pos (Or.inr rfl)]
          exact ⟨fun _ => rfl, fun t => absurd ⟨z, y, t3.mp a, b⟩ t⟩
      · rw [if_neg a, if_pos (Or.inl rfl)]
        exact ⟨fun t => absurd (t3.mpr t.2.2.1) a, fun _ => rfl⟩
    · rw [if_neg y, if_pos (Or.inl rfl)]
      exact ⟨fun t => absurd t.2.1 y, fun _ => rfl⟩
/-- the upper tone of a trill -/
def upV (f s a : Int) : Int := if s = 62 then tnv s + a else tnv (s + 1) + kaV f ((s + 1) % 7)
theorem P_ev {K : zK} {Km : Nat} {V s p q u w f : Int} {m i : Nat} {g : Int → Int} {rec7 : Int → Int → zF → zB → zO} {rec : Int → Int → Int → zF → zB → zO} {F : zF} {B : zB} {Fm : zF} {Bm : zB} (hK : 3002 ≤ K.1) (hKm : 812851200 < Km) (hs : 0 ≤ s ∧ s < K.2 5) (uV : u < V) (hp : 0 ≤ p ∧ p < K.2 6) (hq : B 6 p 0 u = q) (hf : F 6 p 2 = f ∧ Fm 13 w 2 = f ∧ -7 ≤ f ∧ f ≤ 7) (h : VS K q u w m g F B Bm) (hT : T61 Bm) (hi : i < m) (c0 : 0 ≤ Fm 14 0 62) (c1 : Fm 14 0 62 + 40000 ≤ 100000000) (hG : GA V s F B Fm Bm) : ∃ F' B' Fm' Bm', (trE q i F B → f_Performance_trill K s p u i F B = some (0, F', B')) ∧ (¬ trE q i F B → f_Performance_soundAll K s q u i F B = some (0, F', B')) ∧ f_M_gather_39 rec7 rec Km Km 0 (1000 * u + i) i u w Fm Bm = rec (i + 1) u w Fm' Bm' ∧ gaF s F F' ∧ gaB s B B' ∧ gaG Fm Fm' ∧ gaM Bm Bm' ∧ GA V s F' B' Fm' Bm' ∧ Fm 14 0 62 ≤ Fm' 14 0 62 ∧ Fm' 14 0 62 ≤ Fm 14 0 62 + 40000 := by
  have h' := h
  obtain ⟨h4, w0, u0, hm, h12, hV, hg, hsm, hE⟩ := h
  obtain ⟨ei, q1, q2, q3, q4, q5, ti⟩ := hE i hi
  have ep := ei.2.2.2.2.2.2.2.2.2.2
  have c6 := ep.2.2.1
  have hie := hV i (by first | decide | omega) (by first | decide | omega)
  obtain ⟨t1, t2, t3, t4⟩ := L_endT (Fm := Fm) hKm h' hi
  have tb := tk_b (show sumZ g i + g i ≤ 1000000000000 by omega)
  have td := tk_0 (show 0 ≤ sumZ g i + g i by omega)
  have ta := tk_b (show sumZ g i ≤ 1000000000000 by omega)
  have tc := tk_0 t2
  have hx : 0 ≤ 1000 * u + (i : Int) ∧ 1000 * u + (i : Int) < 4000 := by omega
  by_cases T : trE q i F B
  · -- a trill
    obtain ⟨z64, y1, nt, nf⟩ := T
    obtain ⟨p1, p2, p3, p4⟩ := ep.2.2.2.1 0 (by decide) (by first | decide | omega)
    have e7 := ei.2.2.2.2.2.2.2.1
    have e8 := ei.2.2.2.2.2.2.2.2.1
    obtain ⟨_, _, _, m64⟩ := mk8_i e7.2.1 e7.2.2
    have kb := kaV_b (f := f) (s := (B 1 (B 4 q 5 i) 12 0 + 1) % 7)
    have ba := tnv_r p3.1 p3.2 p4.1 p4.2
    have up : 0 ≤ upV f (B 1 (B 4 q 5 i) 12 0) (B 1 (B 4 q 5 i) 13 0) ∧ upV f (B 1 (B 4 q 5 i) 12 0) (B 1 (B 4 q 5 i) 13 0) ≤ 127 := by
      unfold upV
      by_cases a : B 1 (B 4 q 5 i) 12 0 = 62
      · rw [if_pos a]; exact ba
      · rw [if_neg a]; exact tnv_r (by first | decide | omega) (by first | decide | omega) (by first | decide | omega) (by first | decide | omega)
    have zr : zrm (B 1 (B 4 q 5 i) 12 0 + 1) 7 = (B 1 (B 4 q 5 i) 12 0 + 1) % 7 := zrm_e (by first | decide | omega) (by unfold r32; omega) (by decide) (by decide)
    have mz := Int.emod_nonneg (B 1 (B 4 q 5 i) 12 0 + 1) (show (7 : Int) ≠ 0 by decide)
    have my := Int.emod_lt_of_pos (B 1 (B 4 q 5 i) 12 0 + 1) (show (0 : Int) < 7 by decide)
    have cE : f_Performance_trill K s p u i F B = f_Performance_trill_93 K K.1 (tk (sumZ g i)) 0 (upV f (B 1 (B 4 q 5 i) 12 0) (B 1 (B 4 q 5 i) 13 0)) (tnv (B 1 (B 4 q 5 i) 12 0) + B 1 (B 4 q 5 i) 13 0) (tk (sumZ g i + g i)) (B 4 q 5 i) s u i F B := by
      unfold f_Performance_trill f_Performance_trill_78 upV
      rw [if_pos hp, if_pos u0, hq, if_pos h4, if_pos (by first | decide | omega), if_pos hie, q1, q4, C_tick (by first | decide | omega) (by first | decide | omega), zb_s, C_tone hie (by decide) p3, zb_s, if_pos (by unfold r32; omega)]
      by_cases a : B 1 (B 4 q 5 i) 12 0 = 62
      · rw [if_pos (show 63 ≤ B 1 (B 4 q 5 i) 12 0 + 1 by omega), if_pos hie, q1, C_tick (by first | decide | omega) (by first | decide | omega), zb_s, if_pos a]
      · rw [if_neg (show ¬ 63 ≤ B 1 (B 4 q 5 i) 12 0 + 1 by omega), C_nat (by first | decide | omega) (by first | decide | omega), zb_s, hf.1, zr, C_kaV hf.2.2 mz (by first | decide | omega), zb_s, if_pos hie, q1, C_tick (by first | decide | omega) (by first | decide | omega), zb_s, if_neg a]
    have mE : ∃ Fx, (∀ c y k, ¬ (c = 14 ∧ y = 0 ∧ k ≤ 1) → Fx c y k = Fm c y k) ∧ f_M_trill Km w u i (B 1 (B 4 q 5 i) 12 0) (B 1 (B 4 q 5 i) 13 0) Fm Bm = f_M_trill_88 Km Km (tk (sumZ g i)) 0 (upV f (B 1 (B 4 q 5 i) 12 0) (B 1 (B 4 q 5 i) 13 0)) (tnv (B 1 (B 4 q 5 i) 12 0) + B 1 (B 4 q 5 i) 13 0) (tk (sumZ g i + g i)) (1000 * u + i) w u i Fx Bm := by
      refine ⟨fr Fm (sumZ g i + g i), fun c y k n => fr_n n, ?_⟩
      unfold f_M_trill f_M_trill_79 upV
      rw [if_pos w0, if_pos hx, q2, q3, L_tick t2 (by first | decide | omega), zb_s, t1, zb_s, L_toneT p3.1 p3.2, zb_s, if_pos (by unfold r32; omega)]
      by_cases a : B 1 (B 4 q 5 i) 12 0 = 62
      · rw [if_pos a, if_pos a]
      · rw [if_neg a, if_neg a, fr_n (by first | decide | omega), hf.2.1, zr, L_kaV hf.2.2 mz (by first | decide | omega), zb_s, L_toneT (by first | decide | omega) (by first | decide | omega), zb_s]
    obtain ⟨Fx, fx, mE⟩ := mE
    have x62 : Fx 14 0 62 = Fm 14 0 62 := fx 14 0 62 (by first | decide | omega)
    obtain ⟨F', B', Fm', Bm', a1, a2, a3, a4, a5, a6, a7, a8, a9⟩ := P_tr (K := K) (Km := Km) (up := upV f (B 1 (B 4 q 5 i) 12 0) (B 1 (B 4 q 5 i) 13 0)) (ba := tnv (B 1 (B 4 q 5 i) 12 0) + B 1 (B 4 q 5 i) 13 0) (en := tk (sumZ g i + g i)) (e := B 4 q 5 i) (x := 1000 * u + i) (w := w) (u := u) (i := i) (F0 := F) (B0 := Bm) hs hie e8.2 u0 uV (by first | decide | omega) up ba (fun F1 B1 gm => by
        have m13 : ∀ k y, B1 13 w k y = Bm 13 w k y := fun k y => gm 13 w k y (by first | decide | omega)
        rw [L_force (T61_e hT gm) w0 hx (by rw [m13, ← e7.1]; exact e7.2) (by rw [m13, ← e8.1]; exact e8.2), m13, m13, ← e7.1, ← e8.1]) td (by first | decide | omega) 39999 K.1 Km (l := tk (sumZ g i)) (b := 0) (F := F) (B := B) (Fm := Fx) (Bm := Bm) (fun _ _ _ _ => rfl) (fun _ _ _ _ _ => rfl) (by first | decide | omega) (by first | decide | omega) ⟨(by first | decide | omega), fun _ => by rcases hG with g' | g' <;> omega⟩ tc (by first | decide | omega) (Or.inl rfl) (by rw [x62]; exact c0) (by rw [x62]; omega) (GA_g hG x62)
    rw [x62] at a8 a9
    refine ⟨F', B', Fm', Bm', fun _ => by rw [cE]; exact a1, fun t => absurd ⟨z64, y1, nt, nf⟩ t, ?_, a3, a4, gaG_t (fun c y k n => fx c y k (by first | decide | omega)) a5, a6, a7, a8, (by first | decide | omega)⟩
    -- the reference comes to its trill
    obtain ⟨n', hn'⟩ : ∃ j, Km = j + 1 + 1 := ⟨Km - 2, (by first | decide | omega)⟩
    have ri : r32 (i : Int) := by unfold r32; omega
    have rc : r32 (F 1 (B 4 q 5 i) 10) := by unfold r32; omega
    have rs : r32 (B 1 (B 4 q 5 i) 12 0) := by unfold r32; omega
    have ra : r32 (B 1 (B 4 q 5 i) 13 0) := by unfold r32; omega
    have hL := L_tiesE (Km := Km) (Fm := Fm) (by first | decide | omega) h' hi rs ra
    have m13' : ∀ k y, Bm' 13 w k y = Bm 13 w k y := fun k y => a6 13 w k y (by first | decide | omega)
    have m103 : f_M_gather_103 rec7 rec (f_M_gather_39 rec7 rec Km (n' + 1)) Km (Bm 13 w 29 (6 * (1000 * u + i) + 0)) (Bm 13 w 28 (6 * (1000 * u + i) + 0)) 0 (1000 * u + i) i u w Fm Bm = rec (i + 1) u w Fm' Bm' := by
      unfold f_M_gather_103 f_M_gather_144 f_M_gather_145 f_M_gather_177
      rw [if_pos w0, if_pos hx, if_pos (zand_R _ _), ← e7.1, ep.2.1, if_pos rc, if_neg (show ¬ zand (F 1 (B 4 q 5 i) 7) 64 ≤ 0 by omega), if_pos y1, ← p1, ← p2, hL.2 nt, zb_s, if_pos (by decide), if_pos rfl, if_pos (by decide), if_neg (by decide), mE, a2, zb_s, f_M_gather_39, if_pos w0, if_pos hx, if_pos (by decide), m13', ep.2.1, if_pos rc, if_pos (by first | decide | omega)]
    rw [show f_M_gather_39 rec7 rec Km Km = f_M_gather_39 rec7 rec Km (n' + 1 + 1) by rw [← hn'], f_M_gather_39, if_pos w0, if_pos hx, if_pos (by decide), ep.2.1, if_pos rc, if_neg (by first | decide | omega), if_pos (by first | decide | omega), if_pos ri]
    by_cases z : (i : Int) ≤ 0
    · rw [if_pos z]; exact m103
    · obtain ⟨j, hj⟩ : ∃ j, i = j + 1 := ⟨i - 1, (by first | decide | omega)⟩
      have hLj := L_tiesE (Km := Km) (Fm := Fm) (by first | decide | omega) h' (i := j) (by first | decide | omega) rs ra
      have ej : (i : Int) - 1 = (j : Int) := by omega
      rw [ej] at nf
      rw [if_neg z, show 1000 * u + (i : Int) - 1 = 1000 * u + (j : Int) by omega]
      have e28 : Bm 13 w 28 (6 * (1000 * u + i) + 0) = B 1 (B 4 q 5 i) 12 0 := p1.symm
      have e29 : Bm 13 w 29 (6 * (1000 * u + i) + 0) = B 1 (B 4 q 5 i) 13 0 := p2.symm
      rw [show f_M_ties Km w (1000 * u + (j : Int)) (Bm 13 w 28 (6 * (1000 * u + i) + 0)) (Bm 13 w 29 (6 * (1000 * u + i) + 0)) Fm Bm = some (0, Fm, Bm) by rw [e28, e29]; exact hLj.2 (fun t => nf ⟨(by first | decide | omega), t⟩), zb_s, if_pos (by decide), if_pos rfl]
      exact m103
  · -- plain
    obtain ⟨c, hc⟩ : ∃ c : Nat, F 1 (B 4 q 5 i) 10 = c := ⟨(F 1 (B 4 q 5 i) 10).toNat, (by first | decide | omega)⟩
    obtain ⟨F', B', Fm', Bm', a1, a2, a3, a4, a5, a6, a7, a8, a9⟩ := P_sAll (K := K) (Km := Km) (rec7 := rec7) (rec := rec) hK hKm hs uV hi c K.1 Km (k := 0) (F := F) (B := B) (Fm := Fm) (Bm := Bm) h' hT (by first | decide | omega) (by decide) (by first | decide | omega) (by first | decide | omega) (fun a b => by
      by_cases x1 : tieOn q i (B 1 (B 4 q 5 i) 12 0) (B 1 (B 4 q 5 i) 13 0) F B
      · exact Or.inl x1
      · by_cases x2 : 0 < i ∧ tieOn q (i - 1) (B 1 (B 4 q 5 i) 12 0) (B 1 (B 4 q 5 i) 13 0) F B
        · exact Or.inr x2
        · exact absurd ⟨a, b, x1, x2⟩ T) c0 (by first | decide | omega) hG
    refine ⟨F', B', Fm', Bm', fun t => absurd t T, fun _ => ?_, a2, a3, a4, a5, a6, a7, a8, (by first | decide | omega)⟩
    unfold f_Performance_soundAll
    rw [if_pos h4, if_pos (by first | decide | omega), if_pos hie, q1, C_tick t2 (by first | decide | omega), zb_s]
    exact a1
end
end
section
section
/-! ===== all sounds of a piece gathered, both sides: voices ===== -/
/-- too many already: the reference goes on alone -/
theorem L_gvX {K : zK} {Km : Nat} {s p q u w f : Int} {m : Nat} {g : Int → Int} {rec7 : Int → Int → zF → zB → zO} {F : zF} {B : zB} (hK : 3002 ≤ K.1) (hKm : 812851200 < Km) (hs : 0 ≤ s ∧ s < K.2 5) (hp : 0 ≤ p ∧ p < K.2 6) (hq : B 6 p 0 u = q) (hf : F 6 p 2 = f ∧ -7 ≤ f ∧ f ≤ 7) (fl : F 5 s 1 = 1 ∧ F 5 s 0 = 2000) : ∀ (r n' i : Nat) {Fm : zF} {Bm : zB}, VS K q u w m g F B Bm → T61 Bm → Fm 13 w 2 = f → i + r = m → r < n' → 2000 < Fm 14 0 62 → Fm 14 0 62 + 40000 * r ≤ 100000000 → ∃ Fm' Bm', f_M_gather_17 rec7 Km n' i u w Fm Bm = rec7 (u + 1) w Fm' Bm' ∧ gaG Fm Fm' ∧ gaM Bm Bm' ∧ (2000 < Fm' 14 0 62 ∧ Fm 14 0 62 ≤ Fm' 14 0 62) ∧ Fm' 14 0 62 ≤ Fm 14 0 62 + 40000 * r := by
  intro r
  induction r with
  | zero =>
    intro n' i Fm Bm h hT h2 ir hn c0 c1
    obtain ⟨n', rfl⟩ : ∃ j, n' = j + 1 := ⟨n' - 1, (by first | decide | omega)⟩
    obtain ⟨h4, w0, u0, hm, h12, _⟩ := h
    refine ⟨Fm, Bm, ?_, fun _ _ _ _ => rfl, fun _ _ _ _ _ => rfl, ⟨c0, (by first | decide | omega)⟩, (by first | decide | omega)⟩
    rw [f_M_gather_17, if_pos w0, if_pos u0, if_pos (by unfold r32; omega), h12, if_pos (by unfold r32; omega), if_pos (by first | decide | omega)]
  | succ r ih =>
    intro n' i Fm Bm h hT h2 ir hn c0 c1
    obtain ⟨n', rfl⟩ : ∃ j, n' = j + 1 := ⟨n' - 1, (by first | decide | omega)⟩
    have h' := h
    obtain ⟨h4, w0, u0, hm, h12, _⟩ := h
    obtain ⟨F1, B1, Fm1, Bm1, _, _, x3, _, _, x6, x7, x8, x9, x10⟩ := P_ev (V := u + 1) (rec7 := rec7) (rec := f_M_gather_17 rec7 Km n') (i := i) hK hKm hs (by first | decide | omega) hp hq ⟨hf.1, h2, hf.2⟩ h' hT (by first | decide | omega) (by first | decide | omega) (by first | decide | omega) (Or.inr ⟨fl.1, fl.2, c0⟩)
    have ih' := ih n' (i + 1) (Fm := Fm1) (Bm := Bm1) (VS_e (s := s) h' (fun _ _ _ _ => rfl) (fun _ _ _ _ _ => rfl) x7) (T61_e hT x7) (by rw [x6 13 w 2 (by first | decide | omega)]; exact h2) (by first | decide | omega) (by first | decide | omega) (by first | decide | omega) (by first | decide | omega)
    rw [show ((i + 1 : Nat) : Int) = (i : Int) + 1 by omega] at ih'
    obtain ⟨Fm', Bm', y1, y2, y3, y4, y5⟩ := ih'
    refine ⟨Fm', Bm', ?_, gaG_t x6 y2, gaM_t x7 y3, ⟨y4.1, (by first | decide | omega)⟩, (by first | decide | omega)⟩
    rw [f_M_gather_17, if_pos w0, if_pos u0, if_pos (by unfold r32; omega), h12, if_pos (by unfold r32; omega), if_neg (by first | decide | omega), x3]
    exact y1
/-- a voice's sounds -/
theorem P_gv {K : zK} {Km : Nat} {V s p q u w f : Int} {m : Nat} {g : Int → Int} {rec7 : Int → Int → zF → zB → zO} {rec : Int → Int → Int → zF → zB → zO} (hK : 3002 ≤ K.1) (hKm : 812851200 < Km) (hs : 0 ≤ s ∧ s < K.2 5) (uV : u < V) (hp : 0 ≤ p ∧ p < K.2 6) : ∀ (r n n' i : Nat) {F : zF} {B : zB} {Fm : zF} {Bm : zB}, B 6 p 0 u = q → F 6 p 2 = f ∧ Fm 13 w 2 = f ∧ -7 ≤ f ∧ f ≤ 7 → VS K q u w m g F B Bm → T61 Bm → i + r = m → r < n → r < n' → 0 ≤ Fm 14 0 62 → Fm 14 0 62 + 40000 * r ≤ 100000000 → GA V s F B Fm Bm → ∃ F' B' Fm' Bm', f_Performance_gather_35 rec K n i q u s p F B = rec (u + 1) s p F' B' ∧ f_M_gather_17 rec7 Km n' i u w Fm Bm = rec7 (u + 1) w Fm' Bm' ∧ gaF s F F' ∧ gaB s B B' ∧ gaG Fm Fm' ∧ gaM Bm Bm' ∧ GA V s F' B' Fm' Bm' ∧ Fm 14 0 62 ≤ Fm' 14 0 62 ∧ Fm' 14 0 62 ≤ Fm 14 0 62 + 40000 * r := by
  intro r
  induction r with
  | zero =>
    intro n n' i F B Fm Bm hq hf h hT ir hn hn' c0 c1 hG
    obtain ⟨n, rfl⟩ : ∃ j, n = j + 1 := ⟨n - 1, (by first | decide | omega)⟩
    obtain ⟨n', rfl⟩ : ∃ j, n' = j + 1 := ⟨n' - 1, (by first | decide | omega)⟩
    obtain ⟨h4, w0, u0, hm, h12, _⟩ := h
    refine ⟨F, B, Fm, Bm, ?_, ?_, fun _ _ _ _ => rfl, fun _ _ _ _ _ => rfl, fun _ _ _ _ => rfl, fun _ _ _ _ _ => rfl, hG, (by first | decide | omega), (by first | decide | omega)⟩
    · rw [f_Performance_gather_35, if_pos h4, if_pos (by unfold r32; omega), hm.1, if_pos (by unfold r32; omega), if_pos (by first | decide | omega), f_Performance_gather_85]
    · rw [f_M_gather_17, if_pos w0, if_pos u0, if_pos (by unfold r32; omega), h12, if_pos (by unfold r32; omega), if_pos (by first | decide | omega)]
  | succ r ih =>
    intro n n' i F B Fm Bm hq hf h hT ir hn hn' c0 c1 hG
    obtain ⟨n, rfl⟩ : ∃ j, n = j + 1 := ⟨n - 1, (by first | decide | omega)⟩
    have h' := h
    obtain ⟨h4, w0, u0, hm, h12, _⟩ := h
    by_cases fl : F 5 s 1 = 1
    · -- too many already
      have fl2 : F 5 s 0 = 2000 ∧ 2000 < Fm 14 0 62 := by
        rcases hG with g1 | g1
        · have := g1.1; omega
        · exact g1.2
      obtain ⟨Fm', Bm', y1, y2, y3, y4, y5⟩ := L_gvX (rec7 := rec7) hK hKm hs hp hq ⟨hf.1, hf.2.2⟩ ⟨fl, fl2.1⟩ (r + 1) n' i (Fm := Fm) (Bm := Bm) h' hT hf.2.1 ir hn' fl2.2 c1
      refine ⟨F, B, Fm', Bm', ?_, y1, fun _ _ _ _ => rfl, fun _ _ _ _ _ => rfl, y2, y3, Or.inr ⟨fl, fl2.1, y4.1⟩, y4.2, y5⟩
      rw [f_Performance_gather_35, if_pos h4, if_pos (by unfold r32; omega), hm.1, if_pos (by unfold r32; omega), if_neg (by first | decide | omega), if_pos hs, fl, if_pos (by decide), if_neg (by decide), f_Performance_gather_85]
    · obtain ⟨n', rfl⟩ : ∃ j, n' = j + 1 := ⟨n' - 1, (by first | decide | omega)⟩
      have f0 : F 5 s 1 = 0 := by
        rcases hG with g1 | g1
        · exact g1.1
        · exact absurd g1.1 fl
      obtain ⟨F1, B1, Fm1, Bm1, x1, x2, x3, x4, x5, x6, x7, x8, x9, x10⟩ := P_ev (rec7 := rec7) (rec := f_M_gather_17 rec7 Km n') (i := i) hK hKm hs uV hp hq hf h' hT (by first | decide | omega) c0 (by first | decide | omega) hG
      have ih' := ih n n' (i + 1) (F := F1) (B := B1) (Fm := Fm1) (Bm := Bm1) (by rw [x5 6 p 0 u (by first | decide | omega)]; exact hq) ⟨by rw [x4 6 p 2 (by first | decide | omega)]; exact hf.1, by rw [x6 13 w 2 (by first | decide | omega)]; exact hf.2.1, hf.2.2⟩ (VS_e h' x4 x5 x7) (T61_e hT x7) (by first | decide | omega) (by first | decide | omega) (by first | decide | omega) (by first | decide | omega) (by first | decide | omega) x8
      rw [show ((i + 1 : Nat) : Int) = (i : Int) + 1 by omega] at ih'
      obtain ⟨F', B', Fm', Bm', y1, y2, y3, y4, y5, y6, y7, y8, y9⟩ := ih'
      refine ⟨F', B', Fm', Bm', ?_, ?_, gaF_t x4 y3, gaB_t x5 y4, gaG_t x6 y5, gaM_t x7 y6, y7, (by first | decide | omega), (by first | decide | omega)⟩
      · obtain ⟨t1, t0⟩ := C_isTr hK h' (i := i) (by first | decide | omega)
        rw [f_Performance_gather_35, if_pos h4, if_pos (by unfold r32; omega), hm.1, if_pos (by unfold r32; omega), if_neg (by first | decide | omega), if_pos hs, f0, if_pos (by decide), if_pos rfl]
        by_cases T : trE q i F B
        · rw [t1 T, zb_s, if_pos (by decide), if_neg (by decide), x1 T, zb_s, f_Performance_gather_79]
          exact y1
        · rw [t0 T, zb_s, if_pos (by decide), if_pos rfl, x2 T, zb_s, f_Performance_gather_79]
          exact y1
      · rw [f_M_gather_17, if_pos w0, if_pos u0, if_pos (by unfold r32; omega), h12, if_pos (by unfold r32; omega), if_neg (by first | decide | omega), x3]
        exact y2
/-- a piece's sounds -/
theorem P_gp {K : zK} {Km : Nat} {V s p w : Int} {F0 : zF} {B0 : zB} {Fm0 : zF} {Bm0 : zB} (hK : 3002 ≤ K.1) (hKm : 812851200 < Km) (hs : 0 ≤ s ∧ s < K.2 5) (hP : PK K V p w F0 B0 Fm0 Bm0) (hT : T61 Bm0) : ∀ (r n n' : Nat) {u : Int} {F : zF} {B : zB} {Fm : zF} {Bm : zB}, gaF s F0 F → gaB s B0 B → gaG Fm0 Fm → gaM Bm0 Bm → u + r = V → 0 ≤ u → r < n → r < n' → 0 ≤ Fm 14 0 62 → Fm 14 0 62 + 8000000 * r ≤ 100000000 → GA V s F B Fm Bm → ∃ F' B' Fm' Bm', f_Performance_gather_17 K n u s p F B = some (0, F', B') ∧ f_M_gather_7 Km n' u w Fm Bm = some (Fm' 14 0 62, Fm', Bm') ∧ gaF s F0 F' ∧ gaB s B0 B' ∧ gaG Fm0 Fm' ∧ gaM Bm0 Bm' ∧ GA V s F' B' Fm' Bm' ∧ 0 ≤ Fm' 14 0 62 ∧ Fm' 14 0 62 ≤ 100000000 := by
  have hP' := hP
  obtain ⟨⟨hp, w0, V0, p1, m1⟩, ⟨k2, k3, k4, k5, k6, k7⟩, hv⟩ := hP
  have bv := bar_v (n := F0 6 p 4) (d := F0 6 p 5) k4.2 k5.2
  intro r
  induction r with
  | zero =>
    intro n n' u F B Fm Bm g1 g2 g3 g4 ur u0 hn hn' c0 c1 hG
    obtain ⟨n, rfl⟩ : ∃ j, n = j + 1 := ⟨n - 1, (by first | decide | omega)⟩
    obtain ⟨n', rfl⟩ : ∃ j, n' = j + 1 := ⟨n' - 1, (by first | decide | omega)⟩
    have e1 : F 6 p 1 = V := by rw [g1 6 p 1 (by first | decide | omega)]; exact p1
    have e2 : Fm 13 w 1 = V := by rw [g3 13 w 1 (by first | decide | omega)]; exact m1
    refine ⟨F, B, Fm, Bm, ?_, ?_, g1, g2, g3, g4, hG, c0, (by first | decide | omega)⟩
    · rw [f_Performance_gather_17, if_pos hp, if_pos (by unfold r32; omega), e1, if_pos (by unfold r32; omega), if_pos (by first | decide | omega)]
    · rw [f_M_gather_7, if_pos w0, if_pos (by unfold r32; omega), e2, if_pos (by unfold r32; omega), if_pos (by first | decide | omega)]
  | succ r ih =>
    intro n n' u F B Fm Bm g1 g2 g3 g4 ur u0 hn hn' c0 c1 hG
    obtain ⟨n, rfl⟩ : ∃ j, n = j + 1 := ⟨n - 1, (by first | decide | omega)⟩
    obtain ⟨n', rfl⟩ : ∃ j, n' = j + 1 := ⟨n' - 1, (by first | decide | omega)⟩
    have e1 : F 6 p 1 = V := by rw [g1 6 p 1 (by first | decide | omega)]; exact p1
    have e2 : Fm 13 w 1 = V := by rw [g3 13 w 1 (by first | decide | omega)]; exact m1
    obtain ⟨vh, m, g, vk, _⟩ := hv u u0 (by first | decide | omega)
    have vs0 := VS_of vk w0 (by first | decide | omega) bv.2.2.1
    have vs := VS_e vs0 g1 g2 g4
    have eq : B 6 p 0 u = B0 6 p 0 u := g2 6 p 0 u (by first | decide | omega)
    have mm := vk.1
    obtain ⟨F1, B1, Fm1, Bm1, x1, x2, x3, x4, x5, x6, x7, x8, x9⟩ := P_gv (rec7 := f_M_gather_7 Km n') (rec := f_Performance_gather_17 K n) (p := p) (q := B0 6 p 0 u) (f := F0 6 p 2) hK hKm hs (by first | decide | omega) hp m K.1 Km 0 (F := F) (B := B) (Fm := Fm) (Bm := Bm) eq ⟨by rw [g1 6 p 2 (by first | decide | omega)], by rw [g3 13 w 2 (by first | decide | omega)]; exact k2.1.symm, k2.2⟩ vs (T61_e hT g4) (by first | decide | omega) (by first | decide | omega) (by first | decide | omega) c0 (by first | decide | omega) hG
    obtain ⟨F', B', Fm', Bm', y1, y2, y3, y4, y5, y6, y7, y8, y9⟩ := ih n n' (u := u + 1) (F := F1) (B := B1) (Fm := Fm1) (Bm := Bm1) (gaF_t g1 x3) (gaB_t g2 x4) (gaG_t g3 x5) (gaM_t g4 x6) (by first | decide | omega) (by first | decide | omega) (by first | decide | omega) (by first | decide | omega) (by first | decide | omega) (by first | decide | omega) x7
    refine ⟨F', B', Fm', Bm', ?_, ?_, y3, y4, y5, y6, y7, y8, y9⟩
    · rw [f_Performance_gather_17, if_pos hp, if_pos (by unfold r32; omega), e1, if_pos (by unfold r32; omega), if_neg (by first | decide | omega), if_pos (by first | decide | omega), eq]
      rw [show ((0 : Nat) : Int) = 0 from rfl] at x1
      rw [x1]
      exact y1
    · rw [f_M_gather_7, if_pos w0, if_pos (by unfold r32; omega), e2, if_pos (by unfold r32; omega), if_neg (by first | decide | omega)]
      rw [show ((0 : Nat) : Int) = 0 from rfl] at x2
      rw [x2]
      exact y2
theorem P_gather {K : zK} {Km : Nat} {V s p w : Int} {F : zF} {B : zB} {Fm : zF} {Bm : zB} (hK : 3002 ≤ K.1) (hKm : 812851200 < Km) (hs : 0 ≤ s ∧ s < K.2 5) (hP : PK K V p w F B Fm Bm) (hT : T61 Bm) : ∃ F' B' Fm' Bm', f_Performance_gather K s p F B = some (0, F', B') ∧ f_M_gather Km w Fm Bm = some (Fm' 14 0 62, Fm', Bm') ∧ (∀ c y k, ¬ (c = 5 ∧ y = s ∧ (k ≤ 1 ∨ k = 3)) → F' c y k = F c y k) ∧ gaB s B B' ∧ gaG Fm Fm' ∧ gaM Bm Bm' ∧ GA V s F' B' Fm' Bm' ∧ 0 ≤ Fm' 14 0 62 ∧ Fm' 14 0 62 ≤ 100000000 ∧ F' 5 s 3 = 0 := by
  unfold f_Performance_gather f_M_gather
  rw [if_pos hs]
  have V0 := hP.1.2.2.1
  have z0 : ∀ c y k, ¬ (c = 5 ∧ y = s ∧ (k ≤ 1 ∨ k = 3)) → zup3 (zup3 (zup3 F 5 s 0 0) 5 s 1 0) 5 s 3 0 c y k = F c y k := fun c y k n => by rw [zup3_v, if_neg (by first | decide | omega), zup3_v, if_neg (by first | decide | omega), zup3_v, if_neg (by first | decide | omega)]
  have a1 : zup3 (zup3 (zup3 F 5 s 0 0) 5 s 1 0) 5 s 3 0 5 s 1 = 0 := by rw [zup3_v, if_neg (by first | decide | omega), zup3_v, if_pos (by first | decide | omega)]
  have a0 : zup3 (zup3 (zup3 F 5 s 0 0) 5 s 1 0) 5 s 3 0 5 s 0 = 0 := by rw [zup3_v, if_neg (by first | decide | omega), zup3_v, if_neg (by first | decide | omega), zup3_v, if_pos (by first | decide | omega)]
  have m0 : (zup3 Fm 14 0 62 0) 14 0 62 = 0 := by rw [zup3_v, if_pos (by first | decide | omega)]
  have hP1 : PK K V p w (zup3 (zup3 (zup3 F 5 s 0 0) 5 s 1 0) 5 s 3 0) B (zup3 Fm 14 0 62 0) Bm := PK_e hP (fun _ => Int.le_refl _) (fun k _ => z0 6 p k (by first | decide | omega)) rfl (fun u _ _ => by funext k; exact z0 4 _ k (by first | decide | omega)) (fun _ _ _ => rfl) (fun u i _ _ _ _ => by funext k; exact z0 1 _ k (by first | decide | omega)) (fun _ _ _ _ _ _ => rfl) (fun k _ _ => by rw [zup3_v, if_neg (by first | decide | omega)]) (fun _ _ _ => rfl)
  obtain ⟨F', B', Fm', Bm', x1, x2, x3, x4, x5, x6, x7, x8, x9⟩ := P_gp hK hKm hs hP1 hT V.toNat K.1 Km (u := 0) (fun _ _ _ _ => rfl) (fun _ _ _ _ _ => rfl) (fun _ _ _ _ => rfl) (fun _ _ _ _ _ => rfl) (by first | decide | omega) (by decide) (by first | decide | omega) (by first | decide | omega) (by first | decide | omega) (by first | decide | omega) (Or.inl ⟨a1, (by first | decide | omega), (by first | decide | omega), (by first | decide | omega), fun j j0 j1 => (by first | decide | omega)⟩)
  exact ⟨F', B', Fm', Bm', x1, x2, fun c y k n => by rw [x3 c y k (by first | decide | omega), z0 c y k n], x4, fun c y k n => by rw [x5 c y k n, zup3_v, if_neg (by first | decide | omega)], x6, x7, x8, x9, by rw [x3 5 s 3 (by first | decide | omega), zup3_v, if_pos (by first | decide | omega)]⟩
end
end
section
section
/-! ===== strokes put in order: the class ===== -/
theorem zlor2 {w b : Int} (h0 : 0 ≤ w) (h1 : w < 2305843009213693952) (h2 : 0 ≤ b) (h3 : b < 4) : zlor (zlshl w 2) b = w * 4 + b := by
  obtain ⟨n, rfl⟩ := Int.eq_ofNat_of_zero_le h0
  obtain ⟨m, rfl⟩ := Int.eq_ofNat_of_zero_le h2
  have k1 : (BitVec.ofInt 64 (n : Int)).toNat = n := by
    rw [BitVec.toNat_ofInt]
    show ((n : Int) % 18446744073709551616).toNat = n
    omega
  have k2 : (BitVec.ofInt 64 (m : Int)).toNat = m := by
    rw [BitVec.toNat_ofInt]
    show ((m : Int) % 18446744073709551616).toNat = m
    omega
  have e0 : (BitVec.ofInt 64 (n : Int) <<< (2 : Nat)).toNat = n * 4 := by
    rw [BitVec.toNat_shiftLeft, k1, Nat.shiftLeft_eq]
    show n * 4 % 18446744073709551616 = n * 4
    omega
  have e1 : zlshl (n : Int) 2 = ((n * 4 : Nat) : Int) := by
    show (BitVec.ofInt 64 (n : Int) <<< (2 : Nat)).toInt = _
    rw [BitVec.toInt_eq_toNat_of_lt (by rw [e0]; omega), e0]
  have k3 : (BitVec.ofInt 64 ((n * 4 : Nat) : Int)).toNat = n * 4 := by
    rw [BitVec.toNat_ofInt]
    show (((n * 4 : Nat) : Int) % 18446744073709551616).toNat = n * 4
    omega
  have e2 : (BitVec.ofInt 64 ((n * 4 : Nat) : Int) ||| BitVec.ofInt 64 (m : Int)).toNat = n * 4 + m := by
    rw [BitVec.toNat_or, k3, k2]
    have := Nat.shiftLeft_add_eq_or_of_lt (a := n) (b := m) (i := 2) (by first | decide | omega)
    rw [Nat.shiftLeft_eq] at this
    exact this.symm
  rw [e1]
  show (BitVec.ofInt 64 ((n * 4 : Nat) : Int) ||| BitVec.ofInt 64 (m : Int)).toInt = _
  rw [BitVec.toInt_eq_toNat_of_lt (by rw [e2]; omega), e2]
  omega
theorem zlor7 {w b : Int} (h0 : 0 ≤ w) (h1 : w < 72057594037927936) (h2 : 0 ≤ b) (h3 : b < 128) : zlor (zlshl w 7) b = w * 128 + b := by
  obtain ⟨n, rfl⟩ := Int.eq_ofNat_of_zero_le h0
  obtain ⟨m, rfl⟩ := Int.eq_ofNat_of_zero_le h2
  have k1 : (BitVec.ofInt 64 (n : Int)).toNat = n := by
    rw [BitVec.toNat_ofInt]
    show ((n : Int) % 18446744073709551616).toNat = n
    omega
  have k2 : (BitVec.ofInt 64 (m : Int)).toNat = m := by
    rw [BitVec.toNat_ofInt]
    show ((m : Int) % 18446744073709551616).toNat = m
    omega
  have e0 : (BitVec.ofInt 64 (n : Int) <<< (7 : Nat)).toNat = n * 128 := by
    rw [BitVec.toNat_shiftLeft, k1, Nat.shiftLeft_eq]
    show n * 128 % 18446744073709551616 = n * 128
    omega
  have e1 : zlshl (n : Int) 7 = ((n * 128 : Nat) : Int) := by
    show (BitVec.ofInt 64 (n : Int) <<< (7 : Nat)).toInt = _
    rw [BitVec.toInt_eq_toNat_of_lt (by rw [e0]; omega), e0]
  have k3 : (BitVec.ofInt 64 ((n * 128 : Nat) : Int)).toNat = n * 128 := by
    rw [BitVec.toNat_ofInt]
    show (((n * 128 : Nat) : Int) % 18446744073709551616).toNat = n * 128
    omega
  have e2 : (BitVec.ofInt 64 ((n * 128 : Nat) : Int) ||| BitVec.ofInt 64 (m : Int)).toNat = n * 128 + m := by
    rw [BitVec.toNat_or, k3, k2]
    have := Nat.shiftLeft_add_eq_or_of_lt (a := n) (b := m) (i := 7) (by first | decide | omega)
    rw [Nat.shiftLeft_eq] at this
    exact this.symm
  rw [e1]
  show (BitVec.ofInt 64 ((n * 128 : Nat) : Int) ||| BitVec.ofInt 64 (m : Int)).toInt = _
  rw [BitVec.toInt_eq_toNat_of_lt (by rw [e2]; omega), e2]
  omega
theorem zlor11 {w b : Int} (h0 : 0 ≤ w) (h1 : w < 4503599627370496) (h2 : 0 ≤ b) (h3 : b < 2048) : zlor (zlshl w 11) b = w * 2048 + b := by
  obtain ⟨n, rfl⟩ := Int.eq_ofNat_of_zero_le h0
  obtain ⟨m, rfl⟩ := Int.eq_ofNat_of_zero_le h2
  have k1 : (BitVec.ofInt 64 (n : Int)).toNat = n := by
    rw [BitVec.toNat_ofInt]
    show ((n : Int) % 18446744073709551616).toNat = n
    omega
  have k2 : (BitVec.ofInt 64 (m : Int)).toNat = m := by
    rw [BitVec.toNat_ofInt]
    show ((m : Int) % 18446744073709551616).toNat = m
    omega
  have e0 : (BitVec.ofInt 64 (n : Int) <<< (11 : Nat)).toNat = n * 2048 := by
    rw [BitVec.toNat_shiftLeft, k1, Nat.shiftLeft_eq]
    show n * 2048 % 18446744073709551616 = n * 2048
    omega
  have e1 : zlshl (n : Int) 11 = ((n * 2048 : Nat) : Int) := by
    show (BitVec.ofInt 64 (n : Int) <<< (11 : Nat)).toInt = _
    rw [BitVec.toInt_eq_toNat_of_lt (by rw [e0]; omega), e0]
  have k3 : (BitVec.ofInt 64 ((n * 2048 : Nat) : Int)).toNat = n * 2048 := by
    rw [BitVec.toNat_ofInt]
    show (((n * 2048 : Nat) : Int) % 18446744073709551616).toNat = n * 2048
    omega
  have e2 : (BitVec.ofInt 64 ((n * 2048 : Nat) : Int) ||| BitVec.ofInt 64 (m : Int)).toNat = n * 2048 + m := by
    rw [BitVec.toNat_or, k3, k2]
    have := Nat.shiftLeft_add_eq_or_of_lt (a := n) (b := m) (i := 11) (by first | decide | omega)
    rw [Nat.shiftLeft_eq] at this
    exact this.symm
  rw [e1]
  show (BitVec.ofInt 64 ((n * 2048 : Nat) : Int) ||| BitVec.ofInt 64 (m : Int)).toInt = _
  rw [BitVec.toInt_eq_toNat_of_lt (by rw [e2]; omega), e2]
  omega
/-- the key of a stroke: its tick, whether it begins, its voice, tone, event and number -/
def skV (t on v to ev j : Int) : Int := ((((t * 2 + on) * 4 + v) * 128 + to) * 256 + ev) * 2048 + j
theorem C_sk {K : zK} {s j t on : Int} {F : zF} {B : zB} (hs : 0 ≤ s ∧ s < K.2 5) (hj : 0 ≤ j ∧ j < 2000) (ht : 0 ≤ t ∧ t ≤ 500000) (ho : on = 0 ∨ on = 1) (h0 : 0 ≤ B 5 s 340 j ∧ B 5 s 340 j < 4) (h1 : 0 ≤ B 5 s 341 j ∧ B 5 s 341 j < 200) (h2 : 0 ≤ B 5 s 342 j ∧ B 5 s 342 j ≤ 127) : f_Performance_strokeKey K s j t on F B = some (skV t on (B 5 s 340 j) (B 5 s 342 j) (B 5 s 341 j) j, F, B) := by
  unfold f_Performance_strokeKey skV
  rw [if_pos (by unfold r32; omega), if_pos hs, if_pos hj, if_pos (by unfold r32; omega), if_pos (by unfold r32; omega), if_pos (by unfold r32; omega), if_pos (by unfold r32; omega), zlor2 (by first | decide | omega) (by first | decide | omega) h0.1 h0.2, zlor7 (by first | decide | omega) (by first | decide | omega) h2.1 (by first | decide | omega), zlor8 (by first | decide | omega) (by first | decide | omega) h1.1 (by first | decide | omega), zlor11 (by first | decide | omega) (by first | decide | omega) hj.1 (by first | decide | omega)]
/-- the row of strokes that is in use, and the other -/
def rwS (s : Int) (F : zF) : Prop := (F 5 s 8 = 180 ∧ F 5 s 9 = 181) ∨ (F 5 s 8 = 181 ∧ F 5 s 9 = 180)
theorem rw_l {s : Int} {k : Nat} (h : k = 180 ∨ k = 181) : (lnC 5 s k : Int) = 4000 ∧ zk 5 k = (3, 1) ∧ lnC 5 s k ≤ 2147483647 := by
  rcases h with rfl | rfl
  · exact ⟨rfl, by decide, by show (4000 : Nat) ≤ 2147483647; decide⟩
  · exact ⟨rfl, by decide, by show (4000 : Nat) ≤ 2147483647; decide⟩
/-- two ordered stretches of row a brought together in row b -/
theorem C_mrg {K : zK} {s lo mi hi N : Int} {a b : Nat} {F : zF} {S : Int → Int} (hs : 0 ≤ s ∧ s < K.2 5) (ha : F 5 s 8 = a ∧ F 5 s 9 = b) (hab : (a = 180 ∧ b = 181) ∨ (a = 181 ∧ b = 180)) (l0 : 0 ≤ lo ∧ lo ≤ mi ∧ mi ≤ hi ∧ hi ≤ 4000) (r6 : ∀ t, lo ≤ t → t < hi → r64 (S t)) (inj : ∀ t t', lo ≤ t → t < hi → lo ≤ t' → t' < hi → S t = S t' → t = t') (o1 : ∀ t, lo ≤ t → t + 1 < mi → S t < S (t + 1)) (o2 : ∀ t, mi ≤ t → t + 1 < hi → S t < S (t + 1)) : ∀ (r n : Nat) {k x y : Int} {B : zB}, k + r = hi → r < n → lo ≤ x → x ≤ mi → mi ≤ y → y ≤ hi → k = x + (y - mi) → (∀ t, lo ≤ t → t < hi → B 5 s a t = S t) → (∀ t, lo ≤ t → t < k → (x < mi → B 5 s b t < S x) ∧ (y < hi → B 5 s b t < S y) ∧ ∃ z, lo ≤ z ∧ z < hi ∧ B 5 s b t = S z) → (∀ t, lo ≤ t → t + 1 < k → B 5 s b t < B 5 s b (t + 1)) → ∃ B', f_Performance_merge_9 K n k y x s mi hi F B = some (0, F, B') ∧ (∀ c i j t, ¬ (c = 5 ∧ i = s ∧ j = b ∧ k ≤ t ∧ t < hi) → B' c i j t = B c i j t) ∧ (∀ t, lo ≤ t → t < hi → ∃ z, lo ≤ z ∧ z < hi ∧ B' 5 s b t = S z) ∧ (∀ t, lo ≤ t → t + 1 < hi → B' 5 s b t < B' 5 s b (t + 1)) := by
  have hav : a = 180 ∨ a = 181 := by omega
  have hbv : b = 180 ∨ b = 181 := by omega
  have hn : ¬ a = b := by omega
  obtain ⟨la, za, ka⟩ := rw_l (s := s) hav
  obtain ⟨lb, zb, kb⟩ := rw_l (s := s) hbv
  have ta : (F 5 s 8).toNat = a := by rw [ha.1]; exact Int.toNat_natCast a
  have tb : (F 5 s 9).toNat = b := by rw [ha.2]; exact Int.toNat_natCast b
  intro r
  induction r with
  | zero =>
    intro n k x y B kr hn' x0 x1 y0 y1 hk hB hO hS
    obtain ⟨n, rfl⟩ : ∃ j, n = j + 1 := ⟨n - 1, (by first | decide | omega)⟩
    refine ⟨B, ?_, fun _ _ _ _ _ => rfl, fun t t0 t1 => (hO t t0 (by first | decide | omega)).2.2, fun t t0 t1 => hS t t0 (by first | decide | omega)⟩
    rw [f_Performance_merge_9, if_pos (by unfold r32; omega), if_pos (by unfold r32; omega), if_pos (by first | decide | omega)]
  | succ r ih =>
    intro n k x y B kr hn' x0 x1 y0 y1 hk hB hO hS
    obtain ⟨n, rfl⟩ : ∃ j, n = j + 1 := ⟨n - 1, (by first | decide | omega)⟩
    -- one value is put at k
    have put : ∀ (v x' y' : Int), lo ≤ x' → x' ≤ mi → mi ≤ y' → y' ≤ hi → k + 1 = x' + (y' - mi) → (∃ z, lo ≤ z ∧ z < hi ∧ v = S z) → (x' < mi → v < S x') → (y' < hi → v < S y') → (∀ t, lo ≤ t → t < k → B 5 s b t < v) → (x' < mi → x < mi ∧ S x ≤ S x') → (y' < hi → y < hi ∧ S y ≤ S y') → ∃ B', f_Performance_merge_9 K n (k + 1) y' x' s mi hi F (zup4 B 5 s b k v) = some (0, F, B') ∧ (∀ c i j t, ¬ (c = 5 ∧ i = s ∧ j = b ∧ k ≤ t ∧ t < hi) → B' c i j t = B c i j t) ∧ (∀ t, lo ≤ t → t < hi → ∃ z, lo ≤ z ∧ z < hi ∧ B' 5 s b t = S z) ∧ (∀ t, lo ≤ t → t + 1 < hi → B' 5 s b t < B' 5 s b (t + 1)) := fun v x' y' a1 a2 a3 a4 a5 a6 a7 a8 a9 a10 a11 => by
      have e : ∀ t, ¬ t = k → (zup4 B 5 s b k v) 5 s b t = B 5 s b t := fun t ht => by rw [zup4_v, if_neg (by first | decide | omega)]
      have ek : (zup4 B 5 s b k v) 5 s b k = v := by rw [zup4_v, if_pos (by first | decide | omega)]
      obtain ⟨B', b1, b2, b3, b4⟩ := ih n (k := k + 1) (x := x') (y := y') (B := zup4 B 5 s b k v) (by first | decide | omega) (by first | decide | omega) a1 a2 a3 a4 a5 (fun t t0 t1 => by rw [zup4_v, if_neg (by first | decide | omega)]; exact hB t t0 t1) (fun t t0 t1 => by
        by_cases z : t = k
        · rw [z, ek]; exact ⟨a7, a8, a6⟩
        · rw [e t z]
          obtain ⟨h1, h2, h3⟩ := hO t t0 (by first | decide | omega)
          exact ⟨fun q => by have := a10 q; have := h1 this.1; omega, fun q => by have := a11 q; have := h2 this.1; omega, h3⟩) (fun t t0 t1 => by
        by_cases z : t + 1 = k
        · rw [z, ek, e t (by first | decide | omega)]; exact a9 t t0 (by first | decide | omega)
        · rw [e t (by first | decide | omega), e (t + 1) z]; exact hS t t0 (by first | decide | omega))
      exact ⟨B', b1, fun c i j t q => by rw [b2 c i j t (by first | decide | omega), zup4_v, if_neg (by first | decide | omega)], b3, b4⟩
    have rk : r32 k := by unfold r32; omega
    have rx : r32 x := by unfold r32; omega
    have ry : r32 y := by unfold r32; omega
    have rm : r32 mi := by unfold r32; omega
    have rh : r32 hi := by unfold r32; omega
    -- the right one is taken
    have right : y < hi → (x < mi → S y < S x) → ∃ B', f_Performance_merge_49 (f_Performance_merge_9 K n) K k y x s mi hi F B = some (0, F, B') ∧ (∀ c i j t, ¬ (c = 5 ∧ i = s ∧ j = b ∧ k ≤ t ∧ t < hi) → B' c i j t = B c i j t) ∧ (∀ t, lo ≤ t → t < hi → ∃ z, lo ≤ z ∧ z < hi ∧ B' 5 s b t = S z) ∧ (∀ t, lo ≤ t → t + 1 < hi → B' 5 s b t < B' 5 s b (t + 1)) := fun yh lt => by
      have hy := hB y (by first | decide | omega) yh
      unfold f_Performance_merge_49 f_Performance_merge_50 f_Performance_merge_80 f_Performance_merge_93 f_Performance_merge_108
      rw [if_pos hs, if_pos (by decide), if_pos rfl, ta, tb, la, if_pos (by first | decide | omega), if_pos za, if_pos ka, if_pos hs, lb, if_pos (by first | decide | omega), if_pos zb, if_pos kb, if_pos (by decide), if_pos rfl, if_pos (by decide), if_pos rfl, hy, Int.add_zero]
      exact put (S y) x (y + 1) x0 x1 (by first | decide | omega) (by first | decide | omega) (by first | decide | omega) ⟨y, (by first | decide | omega), yh, rfl⟩ lt (fun q => o2 y y0 q) (fun t t0 t1 => (hO t t0 t1).2.1 yh) (fun q => ⟨q, Int.le_refl _⟩) (fun q => ⟨yh, by have := o2 y y0 q; omega⟩)
    have left : x < mi → (y < hi → S x < S y) → ∃ B', f_Performance_merge_45 (f_Performance_merge_9 K n) K k y x s mi hi F B = some (0, F, B') ∧ (∀ c i j t, ¬ (c = 5 ∧ i = s ∧ j = b ∧ k ≤ t ∧ t < hi) → B' c i j t = B c i j t) ∧ (∀ t, lo ≤ t → t < hi → ∃ z, lo ≤ z ∧ z < hi ∧ B' 5 s b t = S z) ∧ (∀ t, lo ≤ t → t + 1 < hi → B' 5 s b t < B' 5 s b (t + 1)) := fun xm lt => by
      have hx := hB x x0 (by first | decide | omega)
      unfold f_Performance_merge_45 f_Performance_merge_50 f_Performance_merge_80 f_Performance_merge_93 f_Performance_merge_108
      rw [if_pos hs, if_pos (by decide), if_neg (by decide), ta, tb, la, if_pos (by first | decide | omega), if_pos za, if_pos ka, if_pos hs, lb, if_pos (by first | decide | omega), if_pos zb, if_pos kb, if_pos (by decide), if_neg (by decide), if_pos (by decide), if_neg (by decide), hx, Int.add_zero]
      exact put (S x) (x + 1) y (by first | decide | omega) (by first | decide | omega) y0 y1 (by first | decide | omega) ⟨x, x0, (by first | decide | omega), rfl⟩ (fun q => o1 x x0 q) lt (fun t t0 t1 => (hO t t0 t1).1 xm) (fun q => ⟨xm, by have := o1 x x0 q; omega⟩) (fun q => ⟨q, Int.le_refl _⟩)
    rw [f_Performance_merge_9, if_pos rk, if_pos rh, if_neg (by first | decide | omega), if_pos rx, if_pos rm]
    by_cases xm : mi ≤ x
    · rw [if_pos xm]
      exact right (by first | decide | omega) (fun q => (by first | decide | omega))
    · rw [if_neg xm, if_pos ry]
      by_cases yh : hi ≤ y
      · rw [if_pos yh]
        exact left (by first | decide | omega) (fun q => (by first | decide | omega))
      · have hx := hB x x0 (by first | decide | omega)
        have hy := hB y (by first | decide | omega) (by first | decide | omega)
        rw [if_neg yh, if_pos hs, ta, la, if_pos (by first | decide | omega), if_pos za, if_pos ka, if_pos (by first | decide | omega), hx, hy, if_pos (r6 x x0 (by first | decide | omega)), if_pos (r6 y (by first | decide | omega) (by first | decide | omega))]
        by_cases q : 0 < zcmp (S x) (S y)
        · rw [if_pos q]
          exact right (by first | decide | omega) (fun _ => zcmp_g.mp q)
        · rw [if_neg q]
          refine left (by first | decide | omega) (fun _ => ?_)
          have h1 : S x ≤ S y := by
            rcases Int.lt_or_le (S y) (S x) with z | z
            · exact absurd (zcmp_g.mpr z) q
            · exact z
          have h2 : ¬ S x = S y := fun z => by have := inj x y x0 (by first | decide | omega) (by first | decide | omega) (by first | decide | omega) z; omega
          omega
end
end
section
section
/-! ===== strokes put in order: the class, all passes ===== -/
def SO (d N : Int) (S : Int → Int) : Prop := (∀ t, 0 ≤ t → t < N → r64 (S t)) ∧ (∀ t t', 0 ≤ t → t < N → 0 ≤ t' → t' < N → S t = S t' → t = t') ∧ (∀ k t, 0 ≤ k → d * k ≤ t → t + 1 < d * k + d → t + 1 < N → S t < S (t + 1))
def DO (e N l : Int) (S D : Int → Int) : Prop := (∀ k t, 0 ≤ k → e * k ≤ t → t < e * k + e → t < N → e * k < l → ∃ z, e * k ≤ z ∧ z < e * k + e ∧ z < N ∧ D t = S z) ∧ (∀ k t, 0 ≤ k → e * k ≤ t → t + 1 < e * k + e → t + 1 < N → e * k < l → D t < D (t + 1))
theorem st_lt {D : Int → Int} {a b : Int} (h : ∀ t, a ≤ t → t + 1 < b → D t < D (t + 1)) : ∀ (r : Nat) {t : Int}, a ≤ t → t + r + 1 < b → D t < D (t + r + 1) := by
  intro r
  induction r with
  | zero =>
    intro t t0 t1
    have := h t t0 (by first | decide | omega)
    rw [show t + ((0 : Nat) : Int) + 1 = t + 1 by omega]
    exact this
  | succ r ih =>
    intro t t0 t1
    have h1 := ih t0 (show t + (r : Int) + 1 < b by omega)
    have h2 := h (t + r + 1) (by first | decide | omega) (by first | decide | omega)
    rw [show t + ((r + 1 : Nat) : Int) + 1 = t + r + 1 + 1 by omega]
    omega
theorem st_in {D : Int → Int} {a b t t' : Int} (h : ∀ t, a ≤ t → t + 1 < b → D t < D (t + 1)) (t0 : a ≤ t) (t1 : t < b) (s0 : a ≤ t') (s1 : t' < b) (e : D t = D t') : t = t' := by
  rcases Int.lt_trichotomy t t' with z | z | z
  · have := st_lt h (t' - t - 1).toNat t0 (by first | decide | omega)
    rw [show t + (((t' - t - 1).toNat : Nat) : Int) + 1 = t' by omega] at this
    omega
  · exact z
  · have := st_lt h (t - t' - 1).toNat s0 (by first | decide | omega)
    rw [show t' + (((t - t' - 1).toNat : Nat) : Int) + 1 = t by omega] at this
    omega
theorem mul_st {e k k' : Int} (e0 : 0 < e) (h : k < k') : e * k + e ≤ e * k' := by
  have := Int.mul_le_mul_of_nonneg_left (show k + 1 ≤ k' by omega) (Int.le_of_lt e0)
  rw [Int.mul_add, Int.mul_one] at this
  exact this
theorem SO_n {e N l : Int} {S D : Int → Int} {d : Int} (e0 : 0 < e) (hS : SO d N S) (hD : DO e N l S D) (hl : N ≤ l) : SO e N D ∧ ∀ t, 0 ≤ t → t < N → ∃ z, 0 ≤ z ∧ z < N ∧ D t = S z := by
  have blk : ∀ t, 0 ≤ t → t < N → 0 ≤ t / e ∧ e * (t / e) ≤ t ∧ t < e * (t / e) + e ∧ e * (t / e) < l := fun t t0 t1 => by
    have h1 := Int.mul_ediv_add_emod t e
    have h2 := Int.emod_nonneg t (show e ≠ 0 by omega)
    have h3 := Int.emod_lt_of_pos t e0
    exact ⟨Int.ediv_nonneg t0 (by first | decide | omega), (by first | decide | omega), (by first | decide | omega), (by first | decide | omega)⟩
  have mem : ∀ t, 0 ≤ t → t < N → ∃ z, e * (t / e) ≤ z ∧ z < e * (t / e) + e ∧ z < N ∧ D t = S z := fun t t0 t1 => by
    obtain ⟨b1, b2, b3, b4⟩ := blk t t0 t1
    exact hD.1 (t / e) t b1 b2 b3 t1 b4
  have z0 : ∀ t, 0 ≤ t → 0 ≤ e * (t / e) := fun t t0 => Int.mul_nonneg (by first | decide | omega) (Int.ediv_nonneg t0 (by first | decide | omega))
  refine ⟨⟨fun t t0 t1 => ?_, fun t t' t0 t1 s0 s1 q => ?_, fun k t k0 k1 k2 k3 => hD.2 k t k0 k1 k2 k3 (by first | decide | omega)⟩, fun t t0 t1 => ?_⟩
  · obtain ⟨z, z1, z2, z3, z4⟩ := mem t t0 t1
    rw [z4]
    exact hS.1 z (by have := z0 t t0; omega) z3
  · obtain ⟨z, z1, z2, z3, z4⟩ := mem t t0 t1
    obtain ⟨y, y1, y2, y3, y4⟩ := mem t' s0 s1
    have zy : z = y := hS.2.1 z y (by have := z0 t t0; omega) z3 (by have := z0 t' s0; omega) y3 (by first | decide | omega)
    have kk : t / e = t' / e := by
      rcases Int.lt_trichotomy (t / e) (t' / e) with q | q | q
      · have := mul_st e0 q; omega
      · exact q
      · have := mul_st e0 q; omega
    obtain ⟨b1, b2, b3, b4⟩ := blk t t0 t1
    obtain ⟨c1, c2, c3, c4⟩ := blk t' s0 s1
    rw [← kk] at c2 c3
    refine st_in (a := e * (t / e)) (b := if e * (t / e) + e ≤ N then e * (t / e) + e else N) (fun u u0 u1 => hD.2 (t / e) u b1 u0 (by split at u1 <;> omega) (by split at u1 <;> omega) b4) b2 (by split <;> omega) c2 (by split <;> omega) q
  · obtain ⟨z, z1, z2, z3, z4⟩ := mem t t0 t1
    exact ⟨z, by have := z0 t t0; omega, z3, z4⟩
/-- one pass -/
theorem C_pass {K : zK} {s d N : Int} {a b : Nat} {F : zF} {B0 : zB} {S : Int → Int} {rec : Int → Int → Int → zF → zB → zO} (hK : 4100 ≤ K.1) (hs : 0 ≤ s ∧ s < K.2 5) (ha : F 5 s 8 = a ∧ F 5 s 9 = b) (hab : (a = 180 ∧ b = 181) ∨ (a = 181 ∧ b = 180)) (d0 : 1 ≤ d) (d1 : d < N) (N1 : N ≤ 4000) (hS : SO d N S) : ∀ (r n : Nat) {m : Int} {B : zB}, 0 ≤ m → N ≤ 2 * d * m + 2 * d * r → 2 * d * m < N + 2 * d → r < n → (∀ c i j t, ¬ (c = 5 ∧ i = s ∧ j = b) → B c i j t = B0 c i j t) → (∀ t, 0 ≤ t → t < N → B 5 s a t = S t) → DO (2 * d) N (2 * d * m) S (B 5 s b) → ∃ B', f_Performance_sortStrokes_16 rec K n (2 * d * m) d N s F B = rec (d * 2) N s (zup3 (zup3 F 5 s 9 a) 5 s 8 b) B' ∧ (∀ c i j t, ¬ (c = 5 ∧ i = s ∧ j = b) → B' c i j t = B0 c i j t) ∧ ∃ l, N ≤ l ∧ DO (2 * d) N l S (B' 5 s b) := by
  intro r
  have rN : r32 N := by unfold r32; omega
  have zn : (zup3 (zup3 F 5 s 9 (F 5 s 8)) 5 s 8 (F 5 s 9)) = (zup3 (zup3 F 5 s 9 a) 5 s 8 b) := by rw [ha.1, ha.2]
  have ab : ¬ a = b := by omega
  induction r with
  | zero =>
    intro n m B m0 h1 h2 hn hB hA hD
    obtain ⟨n, rfl⟩ : ∃ j, n = j + 1 := ⟨n - 1, (by first | decide | omega)⟩
    rw [show ((0 : Nat) : Int) = 0 from rfl, Int.mul_zero] at h1
    refine ⟨B, ?_, hB, 2 * d * m, (by first | decide | omega), hD⟩
    rw [f_Performance_sortStrokes_16, if_pos (by unfold r32; omega), if_pos rN, if_pos (by first | decide | omega), if_pos hs, zn]
  | succ r ih =>
    intro n m B m0 h1 h2 hn hB hA hD
    obtain ⟨n, rfl⟩ : ∃ j, n = j + 1 := ⟨n - 1, (by first | decide | omega)⟩
    have q0 : 0 ≤ 2 * d * m := Int.mul_nonneg (by first | decide | omega) m0
    have qm : 2 * d * (m + 1) = 2 * d * m + 2 * d := by rw [Int.mul_add, Int.mul_one]
    rw [f_Performance_sortStrokes_16, if_pos (by unfold r32; omega), if_pos rN]
    by_cases z : N ≤ 2 * d * m
    · rw [if_pos z, if_pos hs, zn]
      exact ⟨B, rfl, hB, 2 * d * m, z, hD⟩
    · rw [if_neg z, if_pos (by unfold r32; omega), if_pos (by unfold r32; omega), if_pos hs]
      obtain ⟨mi, hmi⟩ : ∃ mi, zmin (2 * d * m + d) N = mi := ⟨_, rfl⟩
      obtain ⟨hi, hhi⟩ : ∃ hi, zmin (2 * d * m + 2 * d) N = hi := ⟨_, rfl⟩
      have m1 : mi ≤ 2 * d * m + d ∧ mi ≤ N ∧ 2 * d * m ≤ mi ∧ (mi = 2 * d * m + d ∨ mi = N) := by
        rw [← hmi]; unfold zmin; split <;> omega
      have m2 : hi ≤ 2 * d * m + 2 * d ∧ hi ≤ N ∧ mi ≤ hi ∧ (hi = 2 * d * m + 2 * d ∨ hi = N) := by
        rw [← hhi]; unfold zmin; split <;> omega
      rw [hmi, hhi]
      have k1 : d * (2 * m) = 2 * d * m := by rw [← Int.mul_assoc, Int.mul_comm d 2]
      have k2 : d * (2 * m + 1) = 2 * d * m + d := by rw [Int.mul_add, Int.mul_one, k1]
      obtain ⟨B1, b1, b2, b3, b4⟩ := C_mrg (K := K) (N := N) (lo := 2 * d * m) (mi := mi) (hi := hi) (S := S) hs ha hab ⟨q0, (by first | decide | omega), (by first | decide | omega), (by first | decide | omega)⟩ (fun t t0 t1 => hS.1 t (by first | decide | omega) (by first | decide | omega)) (fun t t' t0 t1 s0 s1 e => hS.2.1 t t' (by first | decide | omega) (by first | decide | omega) (by first | decide | omega) (by first | decide | omega) e) (fun t t0 t1 => hS.2.2 (2 * m) t (by first | decide | omega) (by first | decide | omega) (by first | decide | omega) (by first | decide | omega)) (fun t t0 t1 => hS.2.2 (2 * m + 1) t (by first | decide | omega) (by first | decide | omega) (by first | decide | omega) (by first | decide | omega)) (hi - 2 * d * m).toNat K.1 (k := 2 * d * m) (x := 2 * d * m) (y := mi) (B := B) (by first | decide | omega) (by first | decide | omega) (by first | decide | omega) (by first | decide | omega) (by first | decide | omega) (by first | decide | omega) (by first | decide | omega) (fun t t0 t1 => hA t (by first | decide | omega) (by first | decide | omega)) (fun t t0 t1 => (by first | decide | omega)) (fun t t0 t1 => (by first | decide | omega))
      unfold f_Performance_merge
      rw [b1, zb_s]
      have hold : ∀ t, t < 2 * d * m → B1 5 s b t = B 5 s b t := fun t ht => b2 5 s b t (by first | decide | omega)
      have ih' := ih n (m := m + 1) (B := B1) (by first | decide | omega) (by
        rw [qm]
        have : 2 * d * ((r + 1 : Nat) : Int) = 2 * d * (r : Int) + 2 * d := by rw [show ((r + 1 : Nat) : Int) = (r : Int) + 1 by omega, Int.mul_add, Int.mul_one]
        omega) (by rw [qm]; omega) (by first | decide | omega) (fun c i j t q => by rw [b2 c i j t (by first | decide | omega), hB c i j t q]) (fun t t0 t1 => by rw [b2 5 s a t (by first | decide | omega)]; exact hA t t0 t1) ⟨fun k t k0 k1' k2' k3 k4 => ?_, fun k t k0 k1' k2' k3 k4 => ?_⟩
      · rw [qm] at ih'
        exact ih'
      · -- membership
        rcases Int.lt_trichotomy k m with q | q | q
        · have := mul_st (show 0 < 2 * d by omega) q
          rw [hold t (by first | decide | omega)]
          exact hD.1 k t k0 k1' k2' k3 (by first | decide | omega)
        · subst q
          obtain ⟨zz, z1, z2, z3⟩ := b3 t (by first | decide | omega) (by first | decide | omega)
          exact ⟨zz, z1, (by first | decide | omega), (by first | decide | omega), z3⟩
        · have := mul_st (show 0 < 2 * d by omega) q
          omega
      · rcases Int.lt_trichotomy k m with q | q | q
        · have := mul_st (show 0 < 2 * d by omega) q
          rw [hold t (by first | decide | omega), hold (t + 1) (by first | decide | omega)]
          exact hD.2 k t k0 k1' k2' k3 (by first | decide | omega)
        · subst q
          exact b4 t (by first | decide | omega) (by first | decide | omega)
        · have := mul_st (show 0 < 2 * d by omega) q
          omega
/-- all passes -/
theorem C_sort {K : zK} {s N : Int} {S0 : Int → Int} {B0 : zB} {F0 : zF} (hK : 4100 ≤ K.1) (hs : 0 ≤ s ∧ s < K.2 5) (N0 : 0 ≤ N) (N1 : N ≤ 4000) : ∀ (r n : Nat) {d : Int} {F : zF} {B : zB} {a b : Nat}, 1 ≤ d → d ≤ 8000 → N ≤ d * 2 ^ r → r < n → F 5 s 8 = a ∧ F 5 s 9 = b → (a = 180 ∧ b = 181) ∨ (a = 181 ∧ b = 180) → (∀ c i k, ¬ (c = 5 ∧ i = s ∧ (k = 8 ∨ k = 9)) → F c i k = F0 c i k) → (∀ c i j t, ¬ (c = 5 ∧ i = s ∧ (j = 180 ∨ j = 181)) → B c i j t = B0 c i j t) → SO d N (B 5 s a) → (∀ t, 0 ≤ t → t < N → ∃ z, 0 ≤ z ∧ z < N ∧ B 5 s a t = S0 z) → ∃ F' B' a', f_Performance_sortStrokes_9 K n d N s F B = some (0, F', B') ∧ rwS s F' ∧ F' 5 s 8 = (a' : Nat) ∧ (∀ c i k, ¬ (c = 5 ∧ i = s ∧ (k = 8 ∨ k = 9)) → F' c i k = F0 c i k) ∧ (∀ c i j t, ¬ (c = 5 ∧ i = s ∧ (j = 180 ∨ j = 181)) → B' c i j t = B0 c i j t) ∧ (∀ t, 0 ≤ t → t + 1 < N → B' 5 s a' t < B' 5 s a' (t + 1)) ∧ (∀ t, 0 ≤ t → t < N → ∃ z, 0 ≤ z ∧ z < N ∧ B' 5 s a' t = S0 z) := by
  intro r
  have fin : ∀ (n : Nat) {d : Int} {F : zF} {B : zB} {a b : Nat}, 1 ≤ d → d ≤ 8000 → N ≤ d → 0 < n → F 5 s 8 = a ∧ F 5 s 9 = b → (a = 180 ∧ b = 181) ∨ (a = 181 ∧ b = 180) → (∀ c i k, ¬ (c = 5 ∧ i = s ∧ (k = 8 ∨ k = 9)) → F c i k = F0 c i k) → (∀ c i j t, ¬ (c = 5 ∧ i = s ∧ (j = 180 ∨ j = 181)) → B c i j t = B0 c i j t) → SO d N (B 5 s a) → (∀ t, 0 ≤ t → t < N → ∃ z, 0 ≤ z ∧ z < N ∧ B 5 s a t = S0 z) → ∃ F' B' a', f_Performance_sortStrokes_9 K n d N s F B = some (0, F', B') ∧ rwS s F' ∧ F' 5 s 8 = (a' : Nat) ∧ (∀ c i k, ¬ (c = 5 ∧ i = s ∧ (k = 8 ∨ k = 9)) → F' c i k = F0 c i k) ∧ (∀ c i j t, ¬ (c = 5 ∧ i = s ∧ (j = 180 ∨ j = 181)) → B' c i j t = B0 c i j t) ∧ (∀ t, 0 ≤ t → t + 1 < N → B' 5 s a' t < B' 5 s a' (t + 1)) ∧ (∀ t, 0 ≤ t → t < N → ∃ z, 0 ≤ z ∧ z < N ∧ B' 5 s a' t = S0 z) := by
    intro n d F B a b d0 d8 hd hn ha hab hF hB hS hM
    obtain ⟨n, rfl⟩ : ∃ j, n = j + 1 := ⟨n - 1, (by first | decide | omega)⟩
    refine ⟨F, B, a, ?_, ?_, ha.1, hF, hB, fun t t0 t1 => ?_, hM⟩
    · rw [f_Performance_sortStrokes_9, if_pos (by unfold r32; omega), if_pos (by unfold r32; omega), if_pos hd]
    · unfold rwS; omega
    · have := hS.2.2 0 t (by decide) (by rw [Int.mul_zero]; exact t0) (by rw [Int.mul_zero]; omega) t1
      exact this
  induction r with
  | zero =>
    intro n d F B a b d0 d8 hd hn
    rw [Int.pow_zero, Int.mul_one] at hd
    exact fin n d0 d8 hd hn
  | succ r ih =>
    intro n d F B a b d0 d8 hd hn ha hab hF hB hS hM
    by_cases z : N ≤ d
    · exact fin n d0 d8 z (by first | decide | omega) ha hab hF hB hS hM
    · obtain ⟨n, rfl⟩ : ∃ j, n = j + 1 := ⟨n - 1, (by first | decide | omega)⟩
      obtain ⟨B1, p1, p2, l, p3, p4⟩ := C_pass (K := K) (rec := f_Performance_sortStrokes_9 K n) (S := B 5 s a) hK hs ha hab d0 (by first | decide | omega) N1 hS 4000 K.1 (m := 0) (B := B) (by decide) (by
        rw [Int.mul_zero]
        have : 1 * ((4000 : Nat) : Int) ≤ 2 * d * ((4000 : Nat) : Int) := Int.mul_le_mul_of_nonneg_right (by first | decide | omega) (by decide)
        omega) (by rw [Int.mul_zero]; omega) (by first | decide | omega) (fun _ _ _ _ _ => rfl) (fun _ _ _ => rfl) ⟨fun k t k0 k1 k2 k3 k4 => by
          have := Int.mul_nonneg (show 0 ≤ 2 * d by omega) k0
          rw [Int.mul_zero] at k4
          omega, fun k t k0 k1 k2 k3 k4 => by
          have := Int.mul_nonneg (show 0 ≤ 2 * d by omega) k0
          rw [Int.mul_zero] at k4
          omega⟩
      rw [Int.mul_zero] at p1
      obtain ⟨so, mem⟩ := SO_n (show 0 < 2 * d by omega) hS p4 p3
      rw [f_Performance_sortStrokes_9, if_pos (by unfold r32; omega), if_pos (by unfold r32; omega), if_neg z, p1]
      rw [Int.mul_comm 2 d] at so
      have ab : ¬ a = b := by omega
      exact ih n (d := d * 2) (F := zup3 (zup3 F 5 s 9 a) 5 s 8 b) (B := B1) (a := b) (b := a) (by first | decide | omega) (by first | decide | omega) (by rw [Int.pow_succ] at hd; rw [Int.mul_assoc, Int.mul_comm 2]; exact hd) (by first | decide | omega) ⟨by rw [zup3_v, if_pos (by first | decide | omega)], by rw [zup3_v, if_neg (by first | decide | omega), zup3_v, if_pos (by first | decide | omega)]⟩ (by first | decide | omega) (fun c i k q => by rw [zup3_v, if_neg (by first | decide | omega), zup3_v, if_neg (by first | decide | omega)]; exact hF c i k q) (fun c i j t q => by rw [p2 c i j t (by first | decide | omega), hB c i j t q]) so (fun t t0 t1 => by
        obtain ⟨y, y0, y1, y2⟩ := mem t t0 t1
        obtain ⟨w, w0, w1, w2⟩ := hM y y0 y1
        exact ⟨w, w0, w1, by rw [y2, w2]⟩)
end
end
section
section
/-! ===== strokes made and put in order: the class ===== -/
/-- the key of stroke z: sound z / 2 begins (z even) or ends -/
def kz (s : Int) (B : zB) (z : Int) : Int := if z % 2 = 0 then skV (B 5 s 344 (z / 2)) 1 (B 5 s 340 (z / 2)) (B 5 s 342 (z / 2)) (B 5 s 341 (z / 2)) (z / 2) else skV (B 5 s 345 (z / 2)) 0 (B 5 s 340 (z / 2)) (B 5 s 342 (z / 2)) (B 5 s 341 (z / 2)) (z / 2)
/-- sounds that can be struck -/
def SB (s c : Int) (B : zB) : Prop := ∀ j, 0 ≤ j → j < c → (0 ≤ B 5 s 340 j ∧ B 5 s 340 j < 4) ∧ (0 ≤ B 5 s 341 j ∧ B 5 s 341 j < 200) ∧ (0 ≤ B 5 s 342 j ∧ B 5 s 342 j ≤ 127) ∧ (0 ≤ B 5 s 343 j ∧ B 5 s 343 j ≤ 127) ∧ 0 ≤ B 5 s 344 j ∧ B 5 s 344 j < B 5 s 345 j ∧ B 5 s 345 j ≤ 500000
theorem skV_r {t on v to ev j : Int} (h1 : 0 ≤ t ∧ t ≤ 500000) (h2 : on = 0 ∨ on = 1) (h3 : 0 ≤ v ∧ v < 4) (h4 : 0 ≤ to ∧ to ≤ 127) (h5 : 0 ≤ ev ∧ ev < 200) (h6 : 0 ≤ j ∧ j < 2000) : 0 ≤ skV t on v to ev j ∧ r64 (skV t on v to ev j) ∧ skV t on v to ev j % 2048 = j ∧ skV t on v to ev j / 268435456 = t * 2 + on := by
  unfold skV r64
  omega
theorem kz_r {s c z : Int} {B : zB} (h : SB s c B) (c1 : c ≤ 2000) (z0 : 0 ≤ z) (z1 : z < 2 * c) : r64 (kz s B z) ∧ kz s B z % 2048 = z / 2 ∧ (kz s B z / 268435456) % 2 = 1 - z % 2 := by
  obtain ⟨a1, a2, a3, a4, a5, a6, a7⟩ := h (z / 2) (by first | decide | omega) (by first | decide | omega)
  unfold kz
  by_cases e : z % 2 = 0
  · rw [if_pos e]
    obtain ⟨_, k1, k2, k3⟩ := skV_r (t := B 5 s 344 (z / 2)) (on := 1) (j := z / 2) ⟨a5, (by first | decide | omega)⟩ (Or.inr rfl) a1 a3 a2 (by first | decide | omega)
    exact ⟨k1, k2, (by first | decide | omega)⟩
  · rw [if_neg e]
    obtain ⟨_, k1, k2, k3⟩ := skV_r (t := B 5 s 345 (z / 2)) (on := 0) (j := z / 2) ⟨(by first | decide | omega), (by first | decide | omega)⟩ (Or.inl rfl) a1 a3 a2 (by first | decide | omega)
    exact ⟨k1, k2, (by first | decide | omega)⟩
theorem kz_i {s c z z' : Int} {B : zB} (h : SB s c B) (c1 : c ≤ 2000) (z0 : 0 ≤ z) (z1 : z < 2 * c) (y0 : 0 ≤ z') (y1 : z' < 2 * c) (e : kz s B z = kz s B z') : z = z' := by
  obtain ⟨_, a1, a2⟩ := kz_r h c1 z0 z1
  obtain ⟨_, b1, b2⟩ := kz_r h c1 y0 y1
  rw [e] at a1 a2
  omega
theorem C_beg {K : zK} {s c : Int} {a : Nat} {F : zF} {B0 : zB} (hs : 0 ≤ s ∧ s < K.2 5) (ha : F 5 s 8 = a) (hav : a = 180 ∨ a = 181) (hc : F 5 s 0 = c) (c0 : 0 ≤ c ∧ c ≤ 2000) (hB : SB s c B0) : ∀ (r n : Nat) {l : Int} {B : zB}, l + r = c → 0 ≤ l → r < n → (∀ y i j t, ¬ (y = 5 ∧ i = s ∧ j = a) → B y i j t = B0 y i j t) → (∀ z, 0 ≤ z → z < 2 * l → B 5 s a z = kz s B0 z) → ∃ B', f_Performance_begin_22 K n l s F B = zbind (f_Performance_sortStrokes K s F B') (fun r10 F10 B10 => some (0, F10, B10)) ∧ (∀ y i j t, ¬ (y = 5 ∧ i = s ∧ j = a) → B' y i j t = B0 y i j t) ∧ (∀ z, 0 ≤ z → z < 2 * c → B' 5 s a z = kz s B0 z) := by
  obtain ⟨la, za, ka⟩ := rw_l (s := s) hav
  have ta : (F 5 s 8).toNat = a := by rw [ha]; exact Int.toNat_natCast a
  intro r
  induction r with
  | zero =>
    intro n l B lr l0 hn hB0 hZ
    obtain ⟨n, rfl⟩ : ∃ j, n = j + 1 := ⟨n - 1, (by first | decide | omega)⟩
    refine ⟨B, ?_, hB0, fun z z0 z1 => hZ z z0 (by first | decide | omega)⟩
    rw [f_Performance_begin_22, if_pos hs, if_pos (by unfold r32; omega), hc, if_pos (by unfold r32; omega), if_pos (by first | decide | omega)]
  | succ r ih =>
    intro n l B lr l0 hn hB0 hZ
    obtain ⟨n, rfl⟩ : ∃ j, n = j + 1 := ⟨n - 1, (by first | decide | omega)⟩
    obtain ⟨a1, a2, a3, a4, a5, a6, a7⟩ := hB l l0 (by first | decide | omega)
    have e : ∀ k, 340 ≤ k → B 5 s k l = B0 5 s k l := fun k hk => hB0 5 s k l (by first | decide | omega)
    have k0 : kz s B0 (2 * l) = skV (B0 5 s 344 l) 1 (B0 5 s 340 l) (B0 5 s 342 l) (B0 5 s 341 l) l := by
      unfold kz
      rw [if_pos (by first | decide | omega), show 2 * l / 2 = l by omega]
    have k1 : kz s B0 (2 * l + 1) = skV (B0 5 s 345 l) 0 (B0 5 s 340 l) (B0 5 s 342 l) (B0 5 s 341 l) l := by
      unfold kz
      rw [if_neg (by first | decide | omega), show (2 * l + 1) / 2 = l by omega]
    have u : ∀ {C : zB} {t v : Int} {k : Nat} {x : Int}, ¬ k = a → (zup4 C 5 s a t v) 5 s k x = C 5 s k x := fun hk => by rw [zup4_v, if_neg (by first | decide | omega)]
    have n4 : ∀ k : Nat, 340 ≤ k → ¬ k = a := fun k hk => by omega
    rw [f_Performance_begin_22, if_pos hs, if_pos (by unfold r32; omega), hc, if_pos (by unfold r32; omega), if_neg (by first | decide | omega), if_pos (by first | decide | omega), e 344 (by decide), if_pos (by unfold r32; omega), C_sk hs (by first | decide | omega) ⟨a5, (by first | decide | omega)⟩ (Or.inr rfl) (by rw [e 340 (by decide)]; exact a1) (by rw [e 341 (by decide)]; exact a2) (by rw [e 342 (by decide)]; exact a3), zb_s, ta, la, if_pos (by first | decide | omega), if_pos za, if_pos ka, u (n4 345 (by decide)), e 345 (by decide), if_pos (by unfold r32; omega), C_sk hs (by first | decide | omega) ⟨(by first | decide | omega), (by first | decide | omega)⟩ (Or.inl rfl) (by rw [u (n4 340 (by decide)), e 340 (by decide)]; exact a1) (by rw [u (n4 341 (by decide)), e 341 (by decide)]; exact a2) (by rw [u (n4 342 (by decide)), e 342 (by decide)]; exact a3), zb_s, if_pos (by first | decide | omega), if_pos za, if_pos ka, u (n4 340 (by decide)), u (n4 341 (by decide)), u (n4 342 (by decide)), e 340 (by decide), e 341 (by decide), e 342 (by decide), ← k0, ← k1]
    refine ih n (l := l + 1) (by first | decide | omega) (by first | decide | omega) (by first | decide | omega) (fun y i j t q => by rw [zup4_v, if_neg (by first | decide | omega), zup4_v, if_neg (by first | decide | omega)]; exact hB0 y i j t q) (fun z z0 z1 => ?_)
    by_cases q1 : z = 2 * l + 1
    · rw [q1, zup4_v, if_pos (by first | decide | omega)]
    · by_cases q2 : z = 2 * l
      · rw [q2, zup4_v, if_neg (by first | decide | omega), zup4_v, if_pos (by first | decide | omega)]
      · rw [zup4_v, if_neg (by first | decide | omega), zup4_v, if_neg (by first | decide | omega)]
        exact hZ z z0 (by first | decide | omega)
/-- what begin leaves: the strokes' keys in rising order -/
theorem C_begin {K : zK} {s c : Int} {F : zF} {B : zB} (hK : 4100 ≤ K.1) (hs : 0 ≤ s ∧ s < K.2 5) (hr : rwS s F) (hc : F 5 s 0 = c) (c0 : 0 ≤ c ∧ c ≤ 2000) (hB : SB s c B) : ∃ F' B' a', f_Performance_begin K s F B = some (0, F', B') ∧ rwS s F' ∧ F' 5 s 8 = (a' : Nat) ∧ (∀ y i k, ¬ (y = 5 ∧ i = s ∧ (k = 2 ∨ k = 8 ∨ k = 9 ∨ k = 11 ∨ k = 12 ∨ k = 13)) → F' y i k = F y i k) ∧ (F' 5 s 2 = 0 ∧ F' 5 s 11 = 0 ∧ F' 5 s 12 = 0 ∧ F' 5 s 13 = 0) ∧ (∀ y i j t, ¬ (y = 5 ∧ i = s ∧ (j = 180 ∨ j = 181)) → B' y i j t = B y i j t) ∧ (∀ t, 0 ≤ t → t + 1 < 2 * c → B' 5 s a' t < B' 5 s a' (t + 1)) ∧ (∀ t, 0 ≤ t → t < 2 * c → ∃ z, 0 ≤ z ∧ z < 2 * c ∧ B' 5 s a' t = kz s B z) := by
  generalize hF1 : zup3 (zup3 (zup3 (zup3 F 5 s 2 0) 5 s 11 0) 5 s 12 0) 5 s 13 0 = F1
  have fn : ∀ y i k, ¬ (y = 5 ∧ i = s ∧ (k = 2 ∨ k = 11 ∨ k = 12 ∨ k = 13)) → F1 y i k = F y i k := fun y i k q => by rw [← hF1, zup3_v, if_neg (by first | decide | omega), zup3_v, if_neg (by first | decide | omega), zup3_v, if_neg (by first | decide | omega), zup3_v, if_neg (by first | decide | omega)]
  obtain ⟨a, b, ha, hab⟩ : ∃ a b : Nat, (F1 5 s 8 = a ∧ F1 5 s 9 = b) ∧ ((a = 180 ∧ b = 181) ∨ (a = 181 ∧ b = 180)) := by
    rcases hr with ⟨r1, r2⟩ | ⟨r1, r2⟩
    · exact ⟨180, 181, ⟨by rw [fn 5 s 8 (by first | decide | omega), r1]; rfl, by rw [fn 5 s 9 (by first | decide | omega), r2]; rfl⟩, Or.inl ⟨rfl, rfl⟩⟩
    · exact ⟨181, 180, ⟨by rw [fn 5 s 8 (by first | decide | omega), r1]; rfl, by rw [fn 5 s 9 (by first | decide | omega), r2]; rfl⟩, Or.inr ⟨rfl, rfl⟩⟩
  have h0 : F1 5 s 0 = c := by rw [fn 5 s 0 (by first | decide | omega)]; exact hc
  obtain ⟨B1, x1, x2, x3⟩ := C_beg (K := K) (F := F1) (B0 := B) hs ha.1 (by first | decide | omega) h0 c0 hB c.toNat K.1 (l := 0) (B := B) (by first | decide | omega) (by decide) (by first | decide | omega) (fun _ _ _ _ _ => rfl) (fun z z0 z1 => (by first | decide | omega))
  have kx : ∀ z, 0 ≤ z → z < 2 * c → r64 (B1 5 s a z) := fun z z0 z1 => by rw [x3 z z0 z1]; exact (kz_r hB c0.2 z0 z1).1
  obtain ⟨F', B', a', y1, y2, y3, y4, y5, y6, y7⟩ := C_sort (K := K) (N := 2 * c) (S0 := kz s B) (B0 := B) (F0 := F1) hK hs (by first | decide | omega) (by first | decide | omega) 12 K.1 (d := 1) (F := F1) (B := B1) (a := a) (b := b) (by decide) (by decide) (by
      have : (1 : Int) * 2 ^ 12 = 4096 := by decide
      omega) (by first | decide | omega) ha hab (fun _ _ _ _ => rfl) (fun y i j t q => x2 y i j t (by first | decide | omega)) ⟨kx, fun t t' t0 t1 s0 s1 e => by rw [x3 t t0 t1, x3 t' s0 s1] at e; exact kz_i hB c0.2 t0 t1 s0 s1 e, fun k t k0 k1 k2 k3 => (by first | decide | omega)⟩ (fun t t0 t1 => ⟨t, t0, t1, x3 t t0 t1⟩)
  refine ⟨F', B', a', ?_, y2, y3, fun y i k q => by rw [y4 y i k (by first | decide | omega), fn y i k (by first | decide | omega)], ⟨?_, ?_, ?_, ?_⟩, y5, y6, y7⟩
  · unfold f_Performance_begin
    rw [if_pos hs, hF1, x1]
    unfold f_Performance_sortStrokes
    rw [if_pos hs, h0, y1, zb_s]
  · rw [y4 5 s 2 (by first | decide | omega), ← hF1, zup3_v, if_neg (by first | decide | omega), zup3_v, if_neg (by first | decide | omega), zup3_v, if_neg (by first | decide | omega), zup3_v, if_pos (by first | decide | omega)]
  · rw [y4 5 s 11 (by first | decide | omega), ← hF1, zup3_v, if_neg (by first | decide | omega), zup3_v, if_neg (by first | decide | omega), zup3_v, if_pos (by first | decide | omega)]
  · rw [y4 5 s 12 (by first | decide | omega), ← hF1, zup3_v, if_neg (by first | decide | omega), zup3_v, if_pos (by first | decide | omega)]
  · rw [y4 5 s 13 (by first | decide | omega), ← hF1, zup3_v, if_pos (by first | decide | omega)]
end
end
section
section
/-! ===== strokes put in order: the reference ===== -/
def tz (B : zB) (z : Int) : Int := if z % 2 = 0 then B 14 0 63 (z / 2) else B 14 0 64 (z / 2)
def kM (B : zB) (z : Int) : Int := skV (tz B z) (1 - z % 2) (B 14 0 67 (z / 2)) (B 14 0 65 (z / 2)) (B 14 0 68 (z / 2)) (z / 2)
def SM (c : Int) (B : zB) : Prop := ∀ j, 0 ≤ j → j < c → (0 ≤ B 14 0 67 j ∧ B 14 0 67 j < 4) ∧ (0 ≤ B 14 0 68 j ∧ B 14 0 68 j < 200) ∧ (0 ≤ B 14 0 65 j ∧ B 14 0 65 j ≤ 127) ∧ (0 ≤ B 14 0 66 j ∧ B 14 0 66 j ≤ 127) ∧ 0 ≤ B 14 0 63 j ∧ B 14 0 63 j < B 14 0 64 j ∧ B 14 0 64 j ≤ 500000
theorem L_ah {K : Nat} {c z1 z2 : Int} {F : zF} {B : zB} (h : SM c B) (c1 : c ≤ 2000) (h2 : 0 ≤ z2) (h12 : z2 < z1) (h1 : z1 < 2 * c) : f_M_isAhead K z1 z2 F B = some (if kM B z1 < kM B z2 then 1 else 0, F, B) := by
  obtain ⟨a1, a2, a3, a4, a5, a6, a7⟩ := h (z1 / 2) (by first | decide | omega) (by first | decide | omega)
  obtain ⟨b1, b2, b3, b4, b5, b6, b7⟩ := h (z2 / 2) (by first | decide | omega) (by first | decide | omega)
  have d1 : zdv z1 2 = z1 / 2 := zdv_e (by first | decide | omega) (by unfold r32; omega) (by decide) (by decide)
  have d2 : zdv z2 2 = z2 / 2 := zdv_e (by first | decide | omega) (by unfold r32; omega) (by decide) (by decide)
  have m1 : zrm z1 2 = z1 % 2 := zrm_e (by first | decide | omega) (by unfold r32; omega) (by decide) (by decide)
  have m2 : zrm z2 2 = z2 % 2 := zrm_e (by first | decide | omega) (by unfold r32; omega) (by decide) (by decide)
  have e55 : f_M_isAhead K z1 z2 F B = f_M_isAhead_55 K (tz B z1) (z2 / 2) (z1 / 2) z1 z2 (tz B z2) F B := by
    unfold f_M_isAhead f_M_isAhead_30 tz
    have g1 : 0 ≤ z1 / 2 ∧ z1 / 2 < 2000 := by omega
    have g2 : 0 ≤ z2 / 2 ∧ z2 / 2 < 2000 := by omega
    have r1 : r32 (z1 % 2) := by unfold r32; omega
    have r2 : r32 (z2 % 2) := by unfold r32; omega
    rw [d1, d2, m1, m2, if_pos r1]
    by_cases x : z1 % 2 = 0
    · rw [if_pos x, if_pos x, if_pos g1, if_pos r2]
      by_cases y : z2 % 2 = 0
      · rw [if_pos y, if_pos y, if_pos g2]
      · rw [if_neg y, if_neg y, if_pos g2]
    · rw [if_neg x, if_neg x, if_pos g1, if_pos r2]
      by_cases y : z2 % 2 = 0
      · rw [if_pos y, if_pos y, if_pos g2]
      · rw [if_neg y, if_neg y, if_pos g2]
  have t1 : 0 ≤ tz B z1 ∧ tz B z1 ≤ 500000 := by unfold tz; split <;> omega
  have t2 : 0 ≤ tz B z2 ∧ tz B z2 ≤ 500000 := by unfold tz; split <;> omega
  rw [e55]
  unfold kM skV
  generalize tz B z1 = T1 at *
  generalize tz B z2 = T2 at *
  unfold f_M_isAhead_55
  rw [m1, m2, if_pos (show r32 T1 by unfold r32; omega), if_pos (show r32 T2 by unfold r32; omega), if_pos (show r32 (z1 % 2) by unfold r32; omega), if_pos (show r32 (z2 % 2) by unfold r32; omega), if_pos (show 0 ≤ z1 / 2 ∧ z1 / 2 < 2000 by omega), if_pos (show 0 ≤ z2 / 2 ∧ z2 / 2 < 2000 by omega), if_pos (show r32 (B 14 0 67 (z1 / 2)) by unfold r32; omega), if_pos (show r32 (B 14 0 67 (z2 / 2)) by unfold r32; omega), if_pos (show r32 (B 14 0 65 (z1 / 2)) by unfold r32; omega), if_pos (show r32 (B 14 0 65 (z2 / 2)) by unfold r32; omega), if_pos (show r32 (B 14 0 68 (z1 / 2)) by unfold r32; omega), if_pos (show r32 (B 14 0 68 (z2 / 2)) by unfold r32; omega)]
  unfold f_M_isAhead_196 f_M_isAhead_174 f_M_isAhead_136 f_M_isAhead_98 f_M_isAhead_76
  rw [if_pos (show (0 : Int) = 0 ∨ (0 : Int) = 1 from Or.inl rfl), if_pos (show (1 : Int) = 0 ∨ (1 : Int) = 1 from Or.inr rfl)]
  generalize B 14 0 67 (z1 / 2) = V1 at *
  generalize B 14 0 67 (z2 / 2) = V2 at *
  generalize B 14 0 65 (z1 / 2) = N1 at *
  generalize B 14 0 65 (z2 / 2) = N2 at *
  generalize B 14 0 68 (z1 / 2) = E1 at *
  generalize B 14 0 68 (z2 / 2) = E2 at *
  by_cases q1 : T1 = T2
  · rw [if_pos q1]
    by_cases q2 : z1 % 2 = z2 % 2
    · rw [if_pos q2]
      by_cases q3 : V1 = V2
      · rw [if_pos q3]
        by_cases q4 : N1 = N2
        · rw [if_pos q4]
          by_cases q5 : E2 ≤ E1
          · rw [if_pos q5, if_neg (by first | decide | omega)]
          · rw [if_neg q5, if_pos (by first | decide | omega)]
        · rw [if_neg q4]
          by_cases q5 : N2 ≤ N1
          · rw [if_pos q5, if_neg (by first | decide | omega)]
          · rw [if_neg q5, if_pos (by first | decide | omega)]
      · rw [if_neg q3]
        by_cases q5 : V2 ≤ V1
        · rw [if_pos q5, if_neg (by first | decide | omega)]
        · rw [if_neg q5, if_pos (by first | decide | omega)]
    · rw [if_neg q2]
      by_cases q5 : z1 % 2 = 1
      · rw [if_pos q5, if_pos (by first | decide | omega)]
      · rw [if_neg q5, if_neg (by first | decide | omega)]
  · rw [if_neg q1]
    by_cases q5 : T2 ≤ T1
    · rw [if_pos q5, if_neg (by first | decide | omega)]
    · rw [if_neg q5, if_pos (by first | decide | omega)]
/-- keys of different strokes differ -/
theorem kM_i {c z z' : Int} {B : zB} (h : SM c B) (c1 : c ≤ 2000) (z0 : 0 ≤ z) (z1 : z < 2 * c) (y0 : 0 ≤ z') (y1 : z' < 2 * c) (e : kM B z = kM B z') : z = z' := by
  obtain ⟨a1, a2, a3, a4, a5, a6, a7⟩ := h (z / 2) (by first | decide | omega) (by first | decide | omega)
  obtain ⟨b1, b2, b3, b4, b5, b6, b7⟩ := h (z' / 2) (by first | decide | omega) (by first | decide | omega)
  have t1 : 0 ≤ tz B z ∧ tz B z ≤ 500000 := by unfold tz; split <;> omega
  have t2 : 0 ≤ tz B z' ∧ tz B z' ≤ 500000 := by unfold tz; split <;> omega
  obtain ⟨_, _, k1, k2⟩ := skV_r (t := tz B z) (on := 1 - z % 2) (j := z / 2) t1 (by first | decide | omega) a1 a3 a2 (by first | decide | omega)
  obtain ⟨_, _, k3, k4⟩ := skV_r (t := tz B z') (on := 1 - z' % 2) (j := z' / 2) t2 (by first | decide | omega) b1 b3 b2 (by first | decide | omega)
  unfold kM at e
  rw [e] at k1 k2
  omega
/-- one stroke more is put in its place -/
theorem L_ins {K : Nat} {c w z : Int} {F : zF} {B0 : zB} {P : Int → Int} {rec : Int → Int → zF → zB → zO} (h : SM c B0) (c1 : c ≤ 2000) (z0 : 0 ≤ z) (z1 : z < 2 * c) (hP : ∀ j, 0 ≤ j → j < z → 0 ≤ P j ∧ P j < z) : ∀ (n : Nat) {t : Int} {B : zB}, 0 ≤ t → t ≤ z → t < n → (∀ y i k x, ¬ (y = 14 ∧ i = 0 ∧ k = 69) → B y i k x = B0 y i k x) → (∀ j, 0 ≤ j → j < t → B 14 0 69 j = P j) → (∀ j, t < j → j ≤ z → B 14 0 69 j = P (j - 1)) → (∀ j, t ≤ j → j < z → kM B0 z < kM B0 (P j)) → ∃ t' B', f_M_perform_138 rec K n t z w F B = rec (z + 1) w F B' ∧ 0 ≤ t' ∧ t' ≤ z ∧ (∀ y i k x, ¬ (y = 14 ∧ i = 0 ∧ k = 69) → B' y i k x = B0 y i k x) ∧ (∀ j, 0 ≤ j → j < t' → B' 14 0 69 j = P j) ∧ B' 14 0 69 t' = z ∧ (∀ j, t' < j → j ≤ z → B' 14 0 69 j = P (j - 1)) ∧ (0 < t' → kM B0 (P (t' - 1)) < kM B0 z) ∧ (t' < z → kM B0 z < kM B0 (P t')) := by
  intro n
  induction n with
  | zero => intro t B t0 _ tn; exfalso; omega
  | succ n ih =>
    intro t B t0 tz' tn hB b1 b2 b3
    have hM : SM c B := fun j j0 j1 => by
      rw [hB 14 0 67 j (by first | decide | omega), hB 14 0 68 j (by first | decide | omega), hB 14 0 65 j (by first | decide | omega), hB 14 0 66 j (by first | decide | omega), hB 14 0 63 j (by first | decide | omega), hB 14 0 64 j (by first | decide | omega)]
      exact h j j0 j1
    have hk : ∀ y, kM B y = kM B0 y := fun y => by
      unfold kM tz
      rw [hB 14 0 63 _ (by first | decide | omega), hB 14 0 64 _ (by first | decide | omega), hB 14 0 67 _ (by first | decide | omega), hB 14 0 65 _ (by first | decide | omega), hB 14 0 68 _ (by first | decide | omega)]
    have fin : (0 < t → kM B0 (P (t - 1)) < kM B0 z) → ∃ t' B', f_M_perform_182 rec K t z w F B = rec (z + 1) w F B' ∧ 0 ≤ t' ∧ t' ≤ z ∧ (∀ y i k x, ¬ (y = 14 ∧ i = 0 ∧ k = 69) → B' y i k x = B0 y i k x) ∧ (∀ j, 0 ≤ j → j < t' → B' 14 0 69 j = P j) ∧ B' 14 0 69 t' = z ∧ (∀ j, t' < j → j ≤ z → B' 14 0 69 j = P (j - 1)) ∧ (0 < t' → kM B0 (P (t' - 1)) < kM B0 z) ∧ (t' < z → kM B0 z < kM B0 (P t')) := fun hl => by
      unfold f_M_perform_182
      rw [if_pos (by first | decide | omega)]
      exact ⟨t, _, rfl, t0, tz', fun y i k x q => by rw [zup4_v, if_neg (by first | decide | omega)]; exact hB y i k x q, fun j j0 j1 => by rw [zup4_v, if_neg (by first | decide | omega)]; exact b1 j j0 j1, by rw [zup4_v, if_pos (by first | decide | omega)], fun j j0 j1 => by rw [zup4_v, if_neg (by first | decide | omega)]; exact b2 j j0 j1, hl, fun q => b3 t (Int.le_refl _) q⟩
    rw [f_M_perform_138, if_pos (by unfold r32; omega)]
    by_cases a : t ≤ 0
    · rw [if_pos a]
      exact fin (fun q => (by first | decide | omega))
    · have e1 := b1 (t - 1) (by first | decide | omega) (by first | decide | omega)
      have p1 := hP (t - 1) (by first | decide | omega) (by first | decide | omega)
      rw [if_neg a, if_pos (by first | decide | omega), e1, L_ah hM c1 p1.1 p1.2 z1, zb_s, hk, hk]
      by_cases q : kM B0 z < kM B0 (P (t - 1))
      · rw [if_pos q, if_pos (by decide), if_neg (by decide), if_pos (by first | decide | omega)]
        rw [e1]
        exact ih (t := t - 1) (by first | decide | omega) (by first | decide | omega) (by first | decide | omega) (fun y i k x q' => by rw [zup4_v, if_neg (by first | decide | omega)]; exact hB y i k x q') (fun j j0 j1 => by rw [zup4_v, if_neg (by first | decide | omega)]; exact b1 j j0 (by first | decide | omega)) (fun j j0 j1 => by
          by_cases e : j = t
          · rw [e, zup4_v, if_pos (by first | decide | omega)]
          · rw [zup4_v, if_neg (by first | decide | omega)]; exact b2 j (by first | decide | omega) j1) (fun j j0 j1 => by
          by_cases e : j = t - 1
          · rw [e]; exact q
          · exact b3 j (by first | decide | omega) j1)
      · rw [if_neg q, if_pos (by decide), if_pos rfl]
        refine fin (fun _ => ?_)
        rcases Int.lt_trichotomy (kM B0 (P (t - 1))) (kM B0 z) with y | y | y
        · exact y
        · have := kM_i h c1 p1.1 (by first | decide | omega) z0 z1 y
          omega
        · exact absurd y q
/-- strokes 0 .. l - 1 in order -/
def ZO (l : Int) (Z : Int → Int) (B0 : zB) : Prop := (∀ j, 0 ≤ j → j < l → 0 ≤ Z j ∧ Z j < l) ∧ (∀ j, 0 ≤ j → j + 1 < l → kM B0 (Z j) < kM B0 (Z (j + 1))) ∧ ∀ y, 0 ≤ y → y < l → ∃ j, 0 ≤ j ∧ j < l ∧ Z j = y
theorem L_127 {K : Nat} {c w : Int} {F : zF} {B0 : zB} (hK : 4100 ≤ K) (w0 : 0 ≤ w ∧ w < 3) (h : SM c B0) (c0 : 0 ≤ c) (c1 : c ≤ 2000) (h60 : F 13 w 60 = 2 * c) : ∀ (r n : Nat) {l : Int} {B : zB}, l + r = 2 * c → 0 ≤ l → r < n → (∀ y i k x, ¬ (y = 14 ∧ i = 0 ∧ k = 69) → B y i k x = B0 y i k x) → ZO l (B 14 0 69) B0 → ∃ B', f_M_perform_127 K n l w F B = f_M_perform_198 K K 0 w F B' ∧ (∀ y i k x, ¬ (y = 14 ∧ i = 0 ∧ k = 69) → B' y i k x = B0 y i k x) ∧ ZO (2 * c) (B' 14 0 69) B0 := by
  intro r
  induction r with
  | zero =>
    intro n l B lr l0 hn hB hZ
    obtain ⟨n, rfl⟩ : ∃ j, n = j + 1 := ⟨n - 1, (by first | decide | omega)⟩
    refine ⟨B, ?_, hB, by rw [show 2 * c = l by omega]; exact hZ⟩
    rw [f_M_perform_127, if_pos w0, if_pos (by unfold r32; omega), h60, if_pos (by unfold r32; omega), if_pos (by first | decide | omega)]
  | succ r ih =>
    intro n l B lr l0 hn hB hZ
    obtain ⟨n, rfl⟩ : ∃ j, n = j + 1 := ⟨n - 1, (by first | decide | omega)⟩
    obtain ⟨t, B1, x1, x2, x3, x4, x5, x6, x7, x8, x9⟩ := L_ins (K := K) (w := w) (F := F) (P := B 14 0 69) (rec := f_M_perform_127 K n) h c1 l0 (show l < 2 * c by omega) (fun j j0 j1 => hZ.1 j j0 j1) K (t := l) (B := B) l0 (Int.le_refl _) (by first | decide | omega) hB (fun _ _ _ => rfl) (fun j j0 j1 => (by first | decide | omega)) (fun j j0 j1 => (by first | decide | omega))
    rw [f_M_perform_127, if_pos w0, if_pos (by unfold r32; omega), h60, if_pos (by unfold r32; omega), if_neg (by first | decide | omega), x1]
    refine ih n (l := l + 1) (by first | decide | omega) (by first | decide | omega) (by first | decide | omega) x4 ⟨fun j j0 j1 => ?_, fun j j0 j1 => ?_, fun y y0 y1 => ?_⟩
    · rcases Int.lt_trichotomy j t with q | q | q
      · rw [x5 j j0 q]; have := hZ.1 j j0 (by first | decide | omega); omega
      · rw [q, x6]; omega
      · rw [x7 j q (by first | decide | omega)]; have := hZ.1 (j - 1) (by first | decide | omega) (by first | decide | omega); omega
    · rcases Int.lt_trichotomy j t with q | q | q
      · rw [x5 j j0 q]
        by_cases e : j + 1 = t
        · rw [e, x6]
          have := x8 (by first | decide | omega)
          rw [show t - 1 = j by omega] at this
          exact this
        · rw [x5 (j + 1) (by first | decide | omega) (by first | decide | omega)]
          exact hZ.2.1 j j0 (by first | decide | omega)
      · rw [q, x6, x7 (t + 1) (by first | decide | omega) (by first | decide | omega), show t + 1 - 1 = t by omega]
        exact x9 (by first | decide | omega)
      · rw [x7 j q (by first | decide | omega), x7 (j + 1) (by first | decide | omega) (by first | decide | omega), show j + 1 - 1 = (j - 1) + 1 by omega]
        exact hZ.2.1 (j - 1) (by first | decide | omega) (by first | decide | omega)
    · by_cases e : y = l
      · exact ⟨t, x2, (by first | decide | omega), by rw [x6, e]⟩
      · obtain ⟨j, j0, j1, j2⟩ := hZ.2.2 y y0 (by first | decide | omega)
        by_cases q : j < t
        · exact ⟨j, j0, (by first | decide | omega), by rw [x5 j j0 q]; exact j2⟩
        · exact ⟨j + 1, (by first | decide | omega), (by first | decide | omega), by rw [x7 (j + 1) (by first | decide | omega) (by first | decide | omega), show j + 1 - 1 = j by omega]; exact j2⟩
end
end
section
section
/-! ===== strokes, both sides alike ===== -/
theorem st_le {g : Int → Int} {N z y : Int} (h : ∀ t, 0 ≤ t → t + 1 < N → g t < g (t + 1)) (z0 : 0 ≤ z) (z1 : z < N) (y0 : 0 ≤ y) (y1 : y < N) (e : g z < g y) : z < y := by
  rcases Int.lt_trichotomy z y with q | q | q
  · exact q
  · rw [q] at e; omega
  · have := st_lt (a := 0) (b := N) h (z - y - 1).toNat y0 (by first | decide | omega)
    rw [show y + (((z - y - 1).toNat : Nat) : Int) + 1 = z by omega] at this
    omega
theorem sig_id {f g : Int → Int} {N : Int} (hf : ∀ t, 0 ≤ t → t + 1 < N → f t < f (t + 1)) (hg : ∀ t, 0 ≤ t → t + 1 < N → g t < g (t + 1)) (mem : ∀ t, 0 ≤ t → t < N → ∃ z, 0 ≤ z ∧ z < N ∧ f t = g z) : ∀ t, 0 ≤ t → t < N → f t = g t := by
  have up : ∀ (n : Nat) (z : Int), (n : Int) < N → 0 ≤ z → z < N → f n = g z → (n : Int) ≤ z := by
    intro n
    induction n with
    | zero => intro z _ z0 _ _; omega
    | succ n ih =>
      intro z hn z0 z1 e
      obtain ⟨y, y0, y1, y2⟩ := mem n (by first | decide | omega) (by first | decide | omega)
      have h1 := ih y (by first | decide | omega) y0 y1 y2
      have h2 := hf n (by first | decide | omega) (by first | decide | omega)
      rw [show ((n + 1 : Nat) : Int) = (n : Int) + 1 by omega] at e
      have := st_le hg y0 y1 z0 z1 (by rw [← y2, ← e]; exact h2)
      omega
  have dn : ∀ (n : Nat) (t z : Int), t + n + 1 = N → 0 ≤ t → 0 ≤ z → z < N → f t = g z → z ≤ t := by
    intro n
    induction n with
    | zero => intro t z ht t0 z0 z1 e; omega
    | succ n ih =>
      intro t z ht t0 z0 z1 e
      obtain ⟨y, y0, y1, y2⟩ := mem (t + 1) (by first | decide | omega) (by first | decide | omega)
      have h1 := ih (t + 1) y (by first | decide | omega) (by first | decide | omega) y0 y1 y2
      have h2 := hf t t0 (by first | decide | omega)
      have := st_le hg z0 z1 y0 y1 (by rw [← y2, ← e]; exact h2)
      omega
  intro t t0 t1
  obtain ⟨z, z0, z1, e⟩ := mem t t0 t1
  obtain ⟨n, hn⟩ : ∃ n : Nat, t = n := ⟨t.toNat, (by first | decide | omega)⟩
  have h1 := up n z (by first | decide | omega) z0 z1 (by rw [← hn]; exact e)
  have h2 := dn (N - t - 1).toNat t z (by first | decide | omega) t0 z0 z1 e
  rw [e, show z = t by omega]
/-- the reference copies the sounds into its piece -/
theorem L_41 {K : Nat} {c w : Int} {F : zF} {B0 : zB} (w0 : 0 ≤ w ∧ w < 3) (h62 : F 14 0 62 = c) (c0 : 0 ≤ c ∧ c ≤ 2000) : ∀ (r n : Nat) {l : Int} {B : zB}, l + r = c → 0 ≤ l → r < n → (∀ y i k x, ¬ (y = 13 ∧ i = w ∧ 55 ≤ k ∧ k ≤ 59) → B y i k x = B0 y i k x) → (∀ j, 0 ≤ j → j < l → B 13 w 55 j = B0 14 0 63 j ∧ B 13 w 56 j = B0 14 0 64 j ∧ B 13 w 57 j = B0 14 0 65 j ∧ B 13 w 58 j = B0 14 0 66 j ∧ B 13 w 59 j = B0 14 0 67 j) → ∃ B', f_M_perform_41 K n l w F B = f_M_perform_127 K K 0 w (zup3 F 13 w 60 (2 * c)) B' ∧ (∀ y i k x, ¬ (y = 13 ∧ i = w ∧ 55 ≤ k ∧ k ≤ 59) → B' y i k x = B0 y i k x) ∧ (∀ j, 0 ≤ j → j < c → B' 13 w 55 j = B0 14 0 63 j ∧ B' 13 w 56 j = B0 14 0 64 j ∧ B' 13 w 57 j = B0 14 0 65 j ∧ B' 13 w 58 j = B0 14 0 66 j ∧ B' 13 w 59 j = B0 14 0 67 j) := by
  intro r
  induction r with
  | zero =>
    intro n l B lr l0 hn hB hC
    obtain ⟨n, rfl⟩ : ∃ j, n = j + 1 := ⟨n - 1, (by first | decide | omega)⟩
    refine ⟨B, ?_, hB, fun j j0 j1 => hC j j0 (by first | decide | omega)⟩
    rw [f_M_perform_41, if_pos (by unfold r32; omega), h62, if_pos (by unfold r32; omega), if_pos (by first | decide | omega), if_pos w0]
  | succ r ih =>
    intro n l B lr l0 hn hB hC
    obtain ⟨n, rfl⟩ : ∃ j, n = j + 1 := ⟨n - 1, (by first | decide | omega)⟩
    have u : ∀ {C : zB} {j v x : Int} {k k' : Nat}, (zup4 C 13 w k j v) 14 0 k' x = C 14 0 k' x := fun {C j v x k k'} => by rw [zup4_v, if_neg (by first | decide | omega)]
    rw [f_M_perform_41, if_pos (by unfold r32; omega), h62, if_pos (by unfold r32; omega), if_neg (by first | decide | omega), if_pos w0, if_pos (by first | decide | omega)]
    simp only [u]
    have e : ∀ k, B 14 0 k l = B0 14 0 k l := fun k => hB 14 0 k l (by first | decide | omega)
    refine ih n (l := l + 1) (by first | decide | omega) (by first | decide | omega) (by first | decide | omega) (fun y i k x q => by rw [zup4_v, if_neg (by first | decide | omega), zup4_v, if_neg (by first | decide | omega), zup4_v, if_neg (by first | decide | omega), zup4_v, if_neg (by first | decide | omega), zup4_v, if_neg (by first | decide | omega)]; exact hB y i k x q) (fun j j0 j1 => ?_)
    by_cases q : j = l
    · rw [q]
      refine ⟨?_, ?_, ?_, ?_, ?_⟩
      · rw [zup4_v, if_neg (by first | decide | omega), zup4_v, if_neg (by first | decide | omega), zup4_v, if_neg (by first | decide | omega), zup4_v, if_neg (by first | decide | omega), zup4_v, if_pos (by first | decide | omega), e]
      · rw [zup4_v, if_neg (by first | decide | omega), zup4_v, if_neg (by first | decide | omega), zup4_v, if_neg (by first | decide | omega), zup4_v, if_pos (by first | decide | omega), e]
      · rw [zup4_v, if_neg (by first | decide | omega), zup4_v, if_neg (by first | decide | omega), zup4_v, if_pos (by first | decide | omega), e]
      · rw [zup4_v, if_neg (by first | decide | omega), zup4_v, if_pos (by first | decide | omega), e]
      · rw [zup4_v, if_pos (by first | decide | omega), e]
    · have := hC j j0 (by first | decide | omega)
      have n5 : ∀ k, (zup4 (zup4 (zup4 (zup4 (zup4 B 13 w 55 l (B 14 0 63 l)) 13 w 56 l (B 14 0 64 l)) 13 w 57 l (B 14 0 65 l)) 13 w 58 l (B 14 0 66 l)) 13 w 59 l (B 14 0 67 l)) 13 w k j = B 13 w k j := fun k => by rw [zup4_v, if_neg (by first | decide | omega), zup4_v, if_neg (by first | decide | omega), zup4_v, if_neg (by first | decide | omega), zup4_v, if_neg (by first | decide | omega), zup4_v, if_neg (by first | decide | omega)]
      rw [n5, n5, n5, n5, n5]
      exact this
/-- the reference writes its strokes -/
def ST (w t z : Int) (B0 B : zB) : Prop := B 13 w 61 t = tz B0 z ∧ B 13 w 62 t = B0 14 0 67 (z / 2) ∧ B 13 w 63 t = B0 14 0 65 (z / 2) ∧ B 13 w 64 t = if z % 2 = 0 then B0 14 0 66 (z / 2) else 0
theorem L_198 {K : Nat} {c w : Int} {F : zF} {B0 : zB} {Z : Int → Int} (w0 : 0 ≤ w ∧ w < 3) (c0 : 0 ≤ c ∧ c ≤ 2000) (h60 : F 13 w 60 = 2 * c) (hZ : ∀ t, 0 ≤ t → t < 2 * c → B0 14 0 69 t = Z t ∧ 0 ≤ Z t ∧ Z t < 2 * c) : ∀ (r n : Nat) {l : Int} {B : zB}, l + r = 2 * c → 0 ≤ l → r < n → (∀ y i k x, ¬ (y = 13 ∧ i = w ∧ 61 ≤ k ∧ k ≤ 64) → B y i k x = B0 y i k x) → (∀ t, 0 ≤ t → t < l → ST w t (Z t) B0 B) → ∃ B', f_M_perform_198 K n l w F B = some (F 14 0 62, zup3 (zup3 (zup3 (zup3 (zup3 F 13 w 65 0) 13 w 66 0) 13 w 67 0) 13 w 68 0) 13 w 69 0, B') ∧ (∀ y i k x, ¬ (y = 13 ∧ i = w ∧ 61 ≤ k ∧ k ≤ 64) → B' y i k x = B0 y i k x) ∧ (∀ t, 0 ≤ t → t < 2 * c → ST w t (Z t) B0 B') := by
  intro r
  induction r with
  | zero =>
    intro n l B lr l0 hn hB hS
    obtain ⟨n, rfl⟩ : ∃ j, n = j + 1 := ⟨n - 1, (by first | decide | omega)⟩
    refine ⟨B, ?_, hB, fun t t0 t1 => hS t t0 (by first | decide | omega)⟩
    rw [f_M_perform_198, if_pos w0, if_pos (by unfold r32; omega), h60, if_pos (by unfold r32; omega), if_pos (by first | decide | omega)]
  | succ r ih =>
    intro n l B lr l0 hn hB hS
    obtain ⟨n, rfl⟩ : ∃ j, n = j + 1 := ⟨n - 1, (by first | decide | omega)⟩
    obtain ⟨z1, z2, z3⟩ := hZ l l0 (by first | decide | omega)
    have e69 : B 14 0 69 l = Z l := by rw [hB 14 0 69 l (by first | decide | omega)]; exact z1
    have zd : zdv (Z l) 2 = Z l / 2 := zdv_e z2 (by unfold r32; omega) (by decide) (by decide)
    have zm : zrm (Z l) 2 = Z l % 2 := zrm_e z2 (by unfold r32; omega) (by decide) (by decide)
    have e : ∀ k, B 14 0 k (Z l / 2) = B0 14 0 k (Z l / 2) := fun k => hB 14 0 k _ (by first | decide | omega)
    have u : ∀ {C : zB} {j v x : Int} {k k' : Nat}, (zup4 C 13 w k j v) 14 0 k' x = C 14 0 k' x := fun {C j v x k k'} => by rw [zup4_v, if_neg (by first | decide | omega)]
    -- one stroke, and on
    have st : ∀ (v4 v1 : Int), v1 = tz B0 (Z l) → (v4 = if Z l % 2 = 0 then B0 14 0 66 (Z l / 2) else 0) → ∃ B', f_M_perform_198 K n (l + 1) w F (zup4 (zup4 (zup4 (zup4 B 13 w 61 l v1) 13 w 62 l (B0 14 0 67 (Z l / 2))) 13 w 63 l (B0 14 0 65 (Z l / 2))) 13 w 64 l v4) = some (F 14 0 62, zup3 (zup3 (zup3 (zup3 (zup3 F 13 w 65 0) 13 w 66 0) 13 w 67 0) 13 w 68 0) 13 w 69 0, B') ∧ (∀ y i k x, ¬ (y = 13 ∧ i = w ∧ 61 ≤ k ∧ k ≤ 64) → B' y i k x = B0 y i k x) ∧ (∀ t, 0 ≤ t → t < 2 * c → ST w t (Z t) B0 B') := fun v4 v1 h1 h4 => by
      refine ih n (l := l + 1) (by first | decide | omega) (by first | decide | omega) (by first | decide | omega) (fun y i k x q => by rw [zup4_v, if_neg (by first | decide | omega), zup4_v, if_neg (by first | decide | omega), zup4_v, if_neg (by first | decide | omega), zup4_v, if_neg (by first | decide | omega)]; exact hB y i k x q) (fun t t0 t1 => ?_)
      by_cases q : t = l
      · rw [q]
        refine ⟨?_, ?_, ?_, ?_⟩
        · rw [zup4_v, if_neg (by first | decide | omega), zup4_v, if_neg (by first | decide | omega), zup4_v, if_neg (by first | decide | omega), zup4_v, if_pos (by first | decide | omega)]; exact h1
        · rw [zup4_v, if_neg (by first | decide | omega), zup4_v, if_neg (by first | decide | omega), zup4_v, if_pos (by first | decide | omega)]
        · rw [zup4_v, if_neg (by first | decide | omega), zup4_v, if_pos (by first | decide | omega)]
        · rw [zup4_v, if_pos (by first | decide | omega)]; exact h4
      · have := hS t t0 (by first | decide | omega)
        unfold ST at this ⊢
        rw [zup4_v, if_neg (by first | decide | omega), zup4_v, if_neg (by first | decide | omega), zup4_v, if_neg (by first | decide | omega), zup4_v, if_neg (by first | decide | omega), zup4_v, if_neg (by first | decide | omega), zup4_v, if_neg (by first | decide | omega), zup4_v, if_neg (by first | decide | omega), zup4_v, if_neg (by first | decide | omega), zup4_v, if_neg (by first | decide | omega), zup4_v, if_neg (by first | decide | omega), zup4_v, if_neg (by first | decide | omega), zup4_v, if_neg (by first | decide | omega), zup4_v, if_neg (by first | decide | omega), zup4_v, if_neg (by first | decide | omega), zup4_v, if_neg (by first | decide | omega), zup4_v, if_neg (by first | decide | omega)]
        exact this
    rw [f_M_perform_198, if_pos w0, if_pos (by unfold r32; omega), h60, if_pos (by unfold r32; omega), if_neg (by first | decide | omega), if_pos (by first | decide | omega), e69, zm, zd, if_pos (by unfold r32; omega)]
    unfold f_M_perform_232 f_M_perform_261 f_M_perform_309
    simp only [u, e]
    by_cases q : Z l % 2 = 0
    · rw [if_pos q, if_pos w0, if_pos (by decide), if_neg (by decide), if_pos (by first | decide | omega), if_pos w0, if_pos (by first | decide | omega), if_pos w0, if_pos (by first | decide | omega), if_pos (by first | decide | omega), if_pos (by decide), if_neg (by decide), if_pos w0, if_pos (by first | decide | omega)]
      exact st _ _ (by unfold tz; rw [if_pos q]) (by rw [if_pos q])
    · rw [if_neg q, if_pos w0, if_pos (by decide), if_pos trivial, if_pos (by first | decide | omega), if_pos w0, if_pos (by first | decide | omega), if_pos w0, if_pos (by first | decide | omega), if_pos (by first | decide | omega), if_pos (by decide), if_pos trivial, if_pos w0, if_pos (by first | decide | omega)]
      exact st _ _ (by unfold tz; rw [if_neg q]) (by rw [if_neg q])
end
end
section
section
/-! ===== strokes, both sides alike: the whole ===== -/
/-- stroke t of both sides is z -/
def SX (s w t z : Int) (B Bm : zB) : Prop := Bm 13 w 61 t = (if z % 2 = 0 then B 5 s 344 (z / 2) else B 5 s 345 (z / 2)) ∧ Bm 13 w 62 t = B 5 s 340 (z / 2) ∧ Bm 13 w 63 t = B 5 s 342 (z / 2) ∧ Bm 13 w 64 t = if z % 2 = 0 then B 5 s 343 (z / 2) else 0
/-- a piece performed, both sides -/
def PFD (s w c : Int) (F : zF) (B : zB) (Fm : zF) (Bm : zB) : Prop := (F 5 s 1 = 0 ∧ F 5 s 0 = c ∧ 0 ≤ c ∧ c ≤ 2000) ∧ (Fm 13 w 53 = 1 ∧ Fm 13 w 54 = c ∧ Fm 13 w 60 = 2 * c) ∧ SB s c B ∧ (∀ j, 0 ≤ j → j < c → Bm 13 w 55 j = B 5 s 344 j ∧ Bm 13 w 56 j = B 5 s 345 j ∧ Bm 13 w 57 j = B 5 s 342 j ∧ Bm 13 w 58 j = B 5 s 343 j ∧ Bm 13 w 59 j = B 5 s 340 j) ∧ (∀ t, 0 ≤ t → t + 1 < 2 * c → B 5 s (F 5 s 8).toNat t < B 5 s (F 5 s 8).toNat (t + 1)) ∧ (∀ t, 0 ≤ t → t < 2 * c → ∃ z, 0 ≤ z ∧ z < 2 * c ∧ B 5 s (F 5 s 8).toNat t = kz s B z ∧ SX s w t z B Bm) ∧ F 5 s 2 = Fm 13 w 65
theorem kz_M {V s c z : Int} {B Bm : zB} (h : ∀ j, 0 ≤ j → j < c → SR V s j B Bm) (z0 : 0 ≤ z) (z1 : z < 2 * c) : kz s B z = kM Bm z := by
  obtain ⟨a1, a2, a3, a4, a5, a6, a7⟩ := h (z / 2) (by first | decide | omega) (by first | decide | omega)
  unfold kz kM tz
  by_cases e : z % 2 = 0
  · rw [if_pos e, if_pos e, a1.1, a2.1, a3.1, a5.1, e]
    rfl
  · rw [if_neg e, if_neg e, a1.1, a2.1, a3.1, a6.1, show z % 2 = 1 by omega]
    rfl
theorem P_strk {K : zK} {Km : Nat} {V s w c : Int} {F : zF} {B : zB} {Fm : zF} {Bm : zB} (hK : 4100 ≤ K.1) (hKm : 4100 ≤ Km) (hs : 0 ≤ s ∧ s < K.2 5) (w0 : 0 ≤ w ∧ w < 3) (hr : rwS s F) (h0 : F 5 s 1 = 0 ∧ F 5 s 0 = c ∧ 0 ≤ c ∧ c ≤ 2000) (h62 : Fm 14 0 62 = c) (h53 : Fm 13 w 53 = 1 ∧ Fm 13 w 54 = c) (hS : ∀ j, 0 ≤ j → j < c → SR V s j B Bm) : ∃ F' B' Fm' Bm', f_Performance_begin K s F B = some (0, F', B') ∧ f_M_perform_41 Km Km 0 w Fm Bm = some (c, Fm', Bm') ∧ rwS s F' ∧ (∀ y i k, ¬ (y = 5 ∧ i = s ∧ (k = 2 ∨ k = 8 ∨ k = 9 ∨ k = 11 ∨ k = 12 ∨ k = 13)) → F' y i k = F y i k) ∧ (F' 5 s 2 = 0 ∧ F' 5 s 11 = 0 ∧ F' 5 s 12 = 0 ∧ F' 5 s 13 = 0) ∧ (∀ y i j t, ¬ (y = 5 ∧ i = s ∧ (j = 180 ∨ j = 181)) → B' y i j t = B y i j t) ∧ (∀ y i k, ¬ (y = 13 ∧ i = w ∧ (k = 60 ∨ (65 ≤ k ∧ k ≤ 69))) → Fm' y i k = Fm y i k) ∧ (Fm' 13 w 65 = 0 ∧ Fm' 13 w 66 = 0 ∧ Fm' 13 w 67 = 0 ∧ Fm' 13 w 68 = 0 ∧ Fm' 13 w 69 = 0) ∧ (∀ y i k x, ¬ (y = 13 ∧ i = w ∧ 55 ≤ k ∧ k ≤ 64) → ¬ (y = 14 ∧ i = 0 ∧ k = 69) → Bm' y i k x = Bm y i k x) ∧ PFD s w c F' B' Fm' Bm' := by
  have hB : SB s c B := fun j j0 j1 => by
    obtain ⟨a1, a2, a3, a4, a5, a6, a7⟩ := hS j j0 j1
    exact ⟨a1.2, a2.2, a3.2, a4.2, a5.2, a7.1, a6.2⟩
  obtain ⟨F', B', a', x1, x2, x3, x4, x5, x6, x7, x8⟩ := C_begin hK hs hr h0.2.1 h0.2.2 hB
  obtain ⟨B1, y1, y2, y3⟩ := L_41 (K := Km) (F := Fm) (B0 := Bm) w0 h62 h0.2.2 c.toNat Km (l := 0) (B := Bm) (by first | decide | omega) (by decide) (by first | decide | omega) (fun _ _ _ _ _ => rfl) (fun j j0 j1 => (by first | decide | omega))
  have m14 : ∀ k x, B1 14 0 k x = Bm 14 0 k x := fun k x => y2 14 0 k x (by first | decide | omega)
  have hM : SM c B1 := fun j j0 j1 => by
    obtain ⟨a1, a2, a3, a4, a5, a6, a7⟩ := hS j j0 j1
    rw [m14, m14, m14, m14, m14, m14, ← a1.1, ← a2.1, ← a3.1, ← a4.1, ← a5.1, ← a6.1]
    exact hB j j0 j1
  obtain ⟨B2, z1, z2, z3⟩ := L_127 (K := Km) (w := w) (F := zup3 Fm 13 w 60 (2 * c)) hKm w0 hM h0.2.2.1 h0.2.2.2 (by rw [zup3_v, if_pos (by first | decide | omega)]) (2 * c).toNat Km (l := 0) (B := B1) (by first | decide | omega) (by decide) (by first | decide | omega) (fun _ _ _ _ _ => rfl) ⟨fun j j0 j1 => (by first | decide | omega), fun j j0 j1 => (by first | decide | omega), fun y y0 y1 => (by first | decide | omega)⟩
  obtain ⟨B3, u1, u2, u3⟩ := L_198 (K := Km) (w := w) (F := zup3 Fm 13 w 60 (2 * c)) (B0 := B2) (Z := B2 14 0 69) w0 h0.2.2 (by rw [zup3_v, if_pos (by first | decide | omega)]) (fun t t0 t1 => ⟨rfl, z3.1 t t0 t1⟩) (2 * c).toNat Km (l := 0) (B := B2) (by first | decide | omega) (by decide) (by first | decide | omega) (fun _ _ _ _ _ => rfl) (fun t t0 t1 => (by first | decide | omega))
  have kB1 : ∀ y, kM B1 y = kM Bm y := fun y => by unfold kM tz; rw [m14, m14, m14, m14, m14]
  have f62 : (zup3 Fm 13 w 60 (2 * c)) 14 0 62 = c := by rw [zup3_v, if_neg (by first | decide | omega)]; exact h62
  rw [f62] at u1
  have ord := sig_id (f := fun t => B' 5 s a' t) (g := fun t => kM B1 (B2 14 0 69 t)) (N := 2 * c) x7 z3.2.1 (fun t t0 t1 => by
    obtain ⟨y, y0, y1', y2'⟩ := x8 t t0 t1
    obtain ⟨j, j0, j1, j2⟩ := z3.2.2 y y0 y1'
    refine ⟨j, j0, j1, ?_⟩
    show B' 5 s a' t = kM B1 (B2 14 0 69 j)
    rw [j2, kB1, y2', kz_M hS y0 y1'])
  have a8 : (F' 5 s 8).toNat = a' := by rw [x3]; exact Int.toNat_natCast a'
  have av : a' = 180 ∨ a' = 181 := by
    rcases x2 with q | q
    · have := q.1; omega
    · have := q.1; omega
  have r34 : ∀ k x, 340 ≤ k → B' 5 s k x = B 5 s k x := fun k x hk => x6 5 s k x (by first | decide | omega)
  have kB' : ∀ z, kz s B' z = kz s B z := fun z => by
    unfold kz
    rw [r34 344 _ (by decide), r34 345 _ (by decide), r34 340 _ (by decide), r34 341 _ (by decide), r34 342 _ (by decide)]
  have n14 : ∀ k x, ¬ k = 69 → B2 14 0 k x = Bm 14 0 k x := fun k x hk => by rw [z2 14 0 k x (by first | decide | omega), m14]
  refine ⟨F', B', _, B3, x1, by rw [y1, z1, u1], x2, x4, x5, x6, fun y i k q => ?_, ⟨?_, ?_, ?_, ?_, ?_⟩, fun y i k x q1 q2 => ?_, ⟨?_, ?_, ?_, ?_⟩, ⟨?_, ?_, ?_⟩, fun j j0 j1 => ?_, fun j j0 j1 => ?_, fun t t0 t1 => ?_, fun t t0 t1 => ?_, ?_⟩
  · rw [zup3_v, if_neg (by first | decide | omega), zup3_v, if_neg (by first | decide | omega), zup3_v, if_neg (by first | decide | omega), zup3_v, if_neg (by first | decide | omega), zup3_v, if_neg (by first | decide | omega), zup3_v, if_neg (by first | decide | omega)]
  · rw [zup3_v, if_neg (by first | decide | omega), zup3_v, if_neg (by first | decide | omega), zup3_v, if_neg (by first | decide | omega), zup3_v, if_neg (by first | decide | omega), zup3_v, if_pos (by first | decide | omega)]
  · rw [zup3_v, if_neg (by first | decide | omega), zup3_v, if_neg (by first | decide | omega), zup3_v, if_neg (by first | decide | omega), zup3_v, if_pos (by first | decide | omega)]
  · rw [zup3_v, if_neg (by first | decide | omega), zup3_v, if_neg (by first | decide | omega), zup3_v, if_pos (by first | decide | omega)]
  · rw [zup3_v, if_neg (by first | decide | omega), zup3_v, if_pos (by first | decide | omega)]
  · rw [zup3_v, if_pos (by first | decide | omega)]
  · rw [u2 y i k x (by first | decide | omega), z2 y i k x (by first | decide | omega), y2 y i k x (by first | decide | omega)]
  · rw [x4 5 s 1 (by first | decide | omega)]; exact h0.1
  · rw [x4 5 s 0 (by first | decide | omega)]; exact h0.2.1
  · exact h0.2.2.1
  · exact h0.2.2.2
  · rw [zup3_v, if_neg (by first | decide | omega), zup3_v, if_neg (by first | decide | omega), zup3_v, if_neg (by first | decide | omega), zup3_v, if_neg (by first | decide | omega), zup3_v, if_neg (by first | decide | omega), zup3_v, if_neg (by first | decide | omega)]; exact h53.1
  · rw [zup3_v, if_neg (by first | decide | omega), zup3_v, if_neg (by first | decide | omega), zup3_v, if_neg (by first | decide | omega), zup3_v, if_neg (by first | decide | omega), zup3_v, if_neg (by first | decide | omega), zup3_v, if_neg (by first | decide | omega)]; exact h53.2
  · rw [zup3_v, if_neg (by first | decide | omega), zup3_v, if_neg (by first | decide | omega), zup3_v, if_neg (by first | decide | omega), zup3_v, if_neg (by first | decide | omega), zup3_v, if_neg (by first | decide | omega), zup3_v, if_pos (by first | decide | omega)]
  · rw [r34 340 _ (by decide), r34 341 _ (by decide), r34 342 _ (by decide), r34 343 _ (by decide), r34 344 _ (by decide), r34 345 _ (by decide)]
    exact hB j j0 j1
  · obtain ⟨a1, a2, a3, a4, a5, a6, a7⟩ := hS j j0 j1
    obtain ⟨e1, e2, e3, e4, e5⟩ := y3 j j0 j1
    have n5 : ∀ k, 55 ≤ k → k ≤ 59 → B3 13 w k j = B1 13 w k j := fun k q1 q2 => by rw [u2 13 w k j (by first | decide | omega), z2 13 w k j (by first | decide | omega)]
    rw [n5 55 (by decide) (by decide), n5 56 (by decide) (by decide), n5 57 (by decide) (by decide), n5 58 (by decide) (by decide), n5 59 (by decide) (by decide), e1, e2, e3, e4, e5, r34 344 _ (by decide), r34 345 _ (by decide), r34 342 _ (by decide), r34 343 _ (by decide), r34 340 _ (by decide)]
    exact ⟨a5.1.symm, a6.1.symm, a3.1.symm, a4.1.symm, a1.1.symm⟩
  · rw [a8]; exact x7 t t0 t1
  · obtain ⟨q1, q2⟩ := z3.1 t t0 t1
    refine ⟨B2 14 0 69 t, q1, q2, ?_, ?_⟩
    · rw [a8, kB', kz_M hS q1 q2, ← kB1]
      exact ord t t0 t1
    · obtain ⟨s1, s2, s3, s4⟩ := u3 t t0 t1
      obtain ⟨a1, a2, a3, a4, a5, a6, a7⟩ := hS (B2 14 0 69 t / 2) (by first | decide | omega) (by first | decide | omega)
      unfold SX
      rw [s1, s2, s3, s4, r34 344 _ (by decide), r34 345 _ (by decide), r34 340 _ (by decide), r34 342 _ (by decide), r34 343 _ (by decide), a5.1, a6.1, a1.1, a3.1, a4.1]
      unfold tz
      rw [n14 63 _ (by decide), n14 64 _ (by decide), n14 67 _ (by decide), n14 65 _ (by decide), n14 66 _ (by decide)]
      exact ⟨rfl, rfl, rfl, rfl⟩
  · rw [x5.1, zup3_v, if_neg (by first | decide | omega), zup3_v, if_neg (by first | decide | omega), zup3_v, if_neg (by first | decide | omega), zup3_v, if_neg (by first | decide | omega), zup3_v, if_pos (by first | decide | omega)]
end
end
section
section
/-! ===== perform, both sides ===== -/
/-- the sounds that the class keeps are those that the reference would gather -/
def SDR (s V p w : Int) (F : zF) (B : zB) (Fm : zF) (Bm : zB) : Prop := ∃ (K0 : zK) (F0 : zF) (B0 : zB) (F1 : zF) (B1 : zB), 3002 ≤ K0.1 ∧ (0 ≤ s ∧ s < K0.2 5) ∧ PK K0 V p w F0 B0 Fm Bm ∧ f_Performance_gather K0 s p F0 B0 = some (0, F1, B1) ∧ F 5 s 0 = F1 5 s 0 ∧ F 5 s 1 = F1 5 s 1 ∧ ∀ k x, 340 ≤ k → B 5 s k x = B1 5 s k x
theorem SDR_e {s V p w : Int} {F F' : zF} {B B' : zB} {Fm Fm' : zF} {Bm Bm' : zB} (h : SDR s V p w F B Fm Bm) (f : F' 5 s 0 = F 5 s 0 ∧ F' 5 s 1 = F 5 s 1) (b : ∀ k x, 340 ≤ k → B' 5 s k x = B 5 s k x) (fm : ∀ k, k ≤ 7 → 1 ≤ k → Fm' 13 w k = Fm 13 w k) (bm : ∀ k x, k ≤ 35 → Bm' 13 w k x = Bm 13 w k x) : SDR s V p w F' B' Fm' Bm' := by
  obtain ⟨K0, F0, B0, F1, B1, a1, a2, a3, a4, a5, a6, a7⟩ := h
  exact ⟨K0, F0, B0, F1, B1, a1, a2, PK_e a3 (fun _ => Int.le_refl _) (fun _ _ => rfl) rfl (fun _ _ _ => rfl) (fun _ _ _ => rfl) (fun _ _ _ _ _ _ => rfl) (fun _ _ _ _ _ _ => rfl) fm bm, a4, by rw [f.1]; exact a5, by rw [f.2]; exact a6, fun k x hk => by rw [b k x hk]; exact a7 k x hk⟩
theorem SDR_ga {Km : Nat} {s V p w : Int} {F : zF} {B : zB} {Fm : zF} {Bm : zB} (hKm : 812851200 < Km) (h : SDR s V p w F B Fm Bm) (hT : T61 Bm) : ∃ Fm' Bm', f_M_gather Km w Fm Bm = some (Fm' 14 0 62, Fm', Bm') ∧ gaG Fm Fm' ∧ gaM Bm Bm' ∧ GA V s F B Fm' Bm' ∧ 0 ≤ Fm' 14 0 62 ∧ Fm' 14 0 62 ≤ 100000000 := by
  obtain ⟨K0, F0, B0, F1, B1, a1, a2, a3, a4, a5, a6, a7⟩ := h
  obtain ⟨F', B', Fm', Bm', x1, x2, x3, x4, x5, x6, x7, x8, x9, _⟩ := P_gather (Km := Km) a1 hKm a2 a3 hT
  rw [a4] at x1
  injection x1 with x1
  injection x1 with _ x1
  injection x1 with e1 e2
  subst e1
  subst e2
  refine ⟨Fm', Bm', x2, x5, x6, ?_, x8, x9⟩
  unfold GA SR at *
  rw [a5, a6]
  simp only [a7 340 _ (by decide), a7 341 _ (by decide), a7 342 _ (by decide), a7 343 _ (by decide), a7 344 _ (by decide), a7 345 _ (by decide)]
  exact x7
/-- a kept piece's performance, as far as it is made -/
def PD (K : zK) (V p w : Int) (F : zF) (B : zB) (Fm : zF) (Bm : zB) : Prop := (F 6 p 10 = 0 ∨ F 6 p 10 = 1) ∧ (F 6 p 11 = 0 ∨ F 6 p 11 = 1) ∧ F 6 p 9 < K.2 5 ∧ (0 ≤ F 6 p 9 → rwS (F 6 p 9) F) ∧ (F 6 p 11 = 1 → 0 ≤ F 6 p 9 ∧ SDR (F 6 p 9) V p w F B Fm Bm) ∧ (F 6 p 10 = 1 → F 6 p 11 = 1 ∧ ∃ c, PFD (F 6 p 9) w c F B Fm Bm) ∧ (F 6 p 10 = 0 → Fm 13 w 53 = 0)
/-- what sounds made may change in the class -/
def smF (K : zK) (p s : Int) (F F' : zF) : Prop := ∀ c y k, y < K.2 c → ¬ (c = 6 ∧ y = p ∧ (k = 9 ∨ k = 11)) → ¬ (c = 5 ∧ y = s) → F' c y k = F c y k
def smB (K : zK) (s : Int) (B B' : zB) : Prop := ∀ c y k x, y < K.2 c → ¬ (c = 5 ∧ y = s ∧ 340 ≤ k) → B' c y k x = B c y k x
theorem C_made {K : zK} {V p w : Int} {F : zF} {B : zB} {Fm : zF} {Bm : zB} (hK : 3002 ≤ K.1) (h5 : 0 ≤ K.2 5) (hP : PK K V p w F B Fm Bm) (hT : T61 Bm) (hD : PD K V p w F B Fm Bm) : ∃ s F1 B1 K1, f_Piece_soundsMade K p F B = some (s, F1, B1, K1) ∧ K1.1 = K.1 ∧ (0 ≤ s ∧ s < K1.2 5) ∧ ((s = F 6 p 9 ∧ K1 = K) ∨ (F 6 p 9 < 0 ∧ s = K.2 5 ∧ K1 = (K.1, zinN K.2 5))) ∧ SDR s V p w F1 B1 Fm Bm ∧ (F1 6 p 9 = s ∧ F1 6 p 11 = 1) ∧ rwS s F1 ∧ smF K p s F F1 ∧ smB K s B B1 ∧ (F 6 p 11 = 1 → F1 = F ∧ B1 = B) ∧ (∀ k, k = 2 ∨ k = 3 ∨ k = 11 ∨ k = 12 ∨ k = 13 → F1 5 s k = 0 ∨ (s < K.2 5 ∧ F1 5 s k = F 5 s k)) := by
  have hp := hP.1.1
  obtain ⟨d10, d11, d9, dr, ds, dp, _⟩ := hD
  -- gather, when the object is there and the sounds are not made
  have g18 : ∀ (K1 : zK) (F1 : zF) (B1 : zB) (s : Int), K1.1 = K.1 → (∀ c, K.2 c ≤ K1.2 c) → F1 6 p 9 = s → 0 ≤ s → s < K1.2 5 → rwS s F1 → F1 6 p 11 = 0 → PK K1 V p w F1 B1 Fm Bm → ∃ F2 B2, f_Piece_soundsMade_18 K1 p F1 B1 = some (s, F2, B2, K1) ∧ SDR s V p w F2 B2 Fm Bm ∧ (F2 6 p 9 = s ∧ F2 6 p 11 = 1) ∧ rwS s F2 ∧ (∀ c y k, ¬ (c = 6 ∧ y = p ∧ k = 11) → ¬ (c = 5 ∧ y = s) → F2 c y k = F1 c y k) ∧ gaB s B1 B2 ∧ (∀ k, k = 2 ∨ k = 3 ∨ k = 11 ∨ k = 12 ∨ k = 13 → F2 5 s k = 0 ∨ F2 5 s k = F1 5 s k) := fun K1 F1 B1 s k1 kk e9 s0 s1 r1 e11 hP1 => by
    have hp1 : 0 ≤ p ∧ p < K1.2 6 := hP1.1.1
    obtain ⟨F', B', Fm', Bm', x1, x2, x3, x4, _, _, _, _, _, x10⟩ := P_gather (Km := 812851201) (by rw [k1]; exact hK) (by decide) ⟨s0, s1⟩ hP1 hT
    refine ⟨zup3 F' 6 p 11 1, B', ?_, ⟨K1, F1, B1, F', B', by rw [k1]; exact hK, ⟨s0, s1⟩, hP1, x1, by rw [zup3_v, if_neg (by omega)], by rw [zup3_v, if_neg (by omega)], fun _ _ _ => rfl⟩, ⟨by rw [zup3_v, if_neg (by omega), x3 6 p 9 (by omega)]; exact e9, by rw [zup3_v, if_pos (by omega)]⟩, ?_, fun c y k q1 q2 => by rw [zup3_v, if_neg (by omega), x3 c y k (by omega)], x4, fun k hk => by
      rw [zup3_v, if_neg (by first | decide | omega)]
      by_cases e : k = 3
      · rw [e]; exact Or.inl x10
      · exact Or.inr (x3 5 s k (by first | decide | omega))⟩
    · unfold f_Piece_soundsMade_18 f_Piece_soundsMade_38
      rw [if_pos hp1, e11, if_pos (by decide), if_pos rfl, e9, if_pos ⟨s0, s1⟩, x1]
      simp only [zbN_s]
      rw [if_pos hp1, zup3_v, if_neg (by first | decide | omega), x3 6 p 9 (by first | decide | omega), e9]
    · unfold rwS at *
      rw [zup3_v, if_neg (by first | decide | omega), zup3_v, if_neg (by first | decide | omega), x3 5 s 8 (by first | decide | omega), x3 5 s 9 (by first | decide | omega)]
      exact r1
  unfold f_Piece_soundsMade
  rw [if_pos hp]
  by_cases n : F 6 p 9 < 0
  · -- a performance is made
    have e11 : F 6 p 11 = 0 := by
      rcases d11 with q | q
      · exact q
      · have := (ds q).1; omega
    generalize hF1 : zup3 (zinF F 5 (K.2 5) [0, 0, 0, 0, 0, 0, 0, 0, 180, 181, 0, 0, 0, 0]) 6 p 9 (K.2 5) = F1
    generalize hB1 : zinB B 5 (K.2 5) (fun _ _ => 0) = B1
    have fn : ∀ c y k, ¬ (c = 5 ∧ y = K.2 5) → ¬ (c = 6 ∧ y = p ∧ k = 9) → F1 c y k = F c y k := fun c y k q1 q2 => by rw [← hF1, zup3_v, if_neg q2, zinF_v, if_neg q1]
    have bn : ∀ c y k x, ¬ (c = 5 ∧ y = K.2 5) → B1 c y k x = B c y k x := fun c y k x q1 => by rw [← hB1, zinB_v, if_neg q1]
    have kn : ∀ c, ¬ c = 5 → zinN K.2 5 c = K.2 c := fun c hc => by rw [zinN_v, if_neg hc]
    have k5 : zinN K.2 5 5 = K.2 5 + 1 := by rw [zinN_v, if_pos rfl]
    have kk : ∀ c, K.2 c ≤ zinN K.2 5 c := fun c => by
      by_cases e : c = 5
      · rw [e, k5]; omega
      · rw [kn c e]; exact Int.le_refl _
    have hP1 : PK (K.1, zinN K.2 5) V p w F1 B1 Fm Bm := PK_e hP kk (fun k hk => fn 6 p k (by first | decide | omega) (by first | decide | omega)) (by funext v; exact bn 6 p 0 v (by first | decide | omega)) (fun u _ _ => by funext k; exact fn 4 _ k (by first | decide | omega) (by first | decide | omega)) (fun u _ _ => by funext k x; exact bn 4 _ k x (by first | decide | omega)) (fun u i _ _ _ _ => by funext k; exact fn 1 _ k (by first | decide | omega) (by first | decide | omega)) (fun u i _ _ _ _ => by funext k x; exact bn 1 _ k x (by first | decide | omega)) (fun _ _ _ => rfl) (fun _ _ _ => rfl)
    have r1 : rwS (K.2 5) F1 := by
      refine Or.inl ⟨?_, ?_⟩
      · rw [← hF1, zup3_v, if_neg (by first | decide | omega), zinF_v, if_pos ⟨rfl, rfl⟩]; rfl
      · rw [← hF1, zup3_v, if_neg (by first | decide | omega), zinF_v, if_pos ⟨rfl, rfl⟩]; rfl
    obtain ⟨F2, B2, x1, x2, x3, x4, x5, x6, x7⟩ := g18 (K.1, zinN K.2 5) F1 B1 (K.2 5) rfl kk (by rw [← hF1, zup3_v, if_pos (by first | decide | omega)]) h5 (by show K.2 5 < zinN K.2 5 5; omega) r1 (by rw [fn 6 p 11 (by first | decide | omega) (by first | decide | omega)]; exact e11) hP1
    refine ⟨K.2 5, F2, B2, (K.1, zinN K.2 5), ?_, rfl, ⟨h5, by show K.2 5 < zinN K.2 5 5; omega⟩, Or.inr ⟨n, rfl, rfl⟩, x2, x3, x4, fun c y k y1 q1 q2 => ?_, fun c y k x y1 q1 => ?_, fun q => (by first | decide | omega), fun k hk => Or.inl ?_⟩
    · rw [if_pos n]
      unfold f_Performance_init f_Piece_soundsMade_15
      rw [if_pos h5]
      simp only [zbM_s]
      rw [if_pos (show 0 ≤ K.2 5 ∧ K.2 5 < zinN K.2 5 5 by omega), if_pos (show 0 ≤ p ∧ p < zinN K.2 5 6 by rw [kn 6 (by decide)]; exact hp), if_pos (show 0 ≤ p ∧ p < zinN K.2 5 6 by rw [kn 6 (by decide)]; exact hp), if_pos (show K.2 5 < zinN K.2 5 5 by omega), hF1, hB1]
      exact x1
    · rw [x5 c y k (by first | decide | omega) q2, fn c y k q2 (by first | decide | omega)]
    · rw [x6 c y k x q1, bn c y k x (fun z => by have := z.1; subst this; omega)]
    · rcases x7 k hk with z | z
      · exact z
      · rw [z, ← hF1, zup3_v, if_neg (by first | decide | omega), zinF_v, if_pos ⟨rfl, rfl⟩]
        rcases hk with rfl | rfl | rfl | rfl | rfl <;> rfl
  · rw [if_neg n]
    rcases d11 with e11 | e11
    · obtain ⟨F2, B2, x1, x2, x3, x4, x5, x6, x7⟩ := g18 K F B (F 6 p 9) rfl (fun _ => Int.le_refl _) rfl (by first | decide | omega) d9 (dr (by first | decide | omega)) e11 hP
      exact ⟨F 6 p 9, F2, B2, K, x1, rfl, ⟨by omega, d9⟩, Or.inl ⟨rfl, rfl⟩, x2, x3, x4, fun c y k _ q1 q2 => x5 c y k (by omega) q2, fun c y k x _ q1 => x6 c y k x q1, fun q => by omega, fun k hk => by
        rcases x7 k hk with z | z
        · exact Or.inl z
        · exact Or.inr ⟨d9, z⟩⟩
    · refine ⟨F 6 p 9, F, B, K, ?_, rfl, ⟨(by first | decide | omega), d9⟩, Or.inl ⟨rfl, rfl⟩, (ds e11).2, ⟨rfl, e11⟩, dr (by first | decide | omega), fun _ _ _ _ _ _ => rfl, fun _ _ _ _ _ _ => rfl, fun _ => ⟨rfl, rfl⟩, fun k _ => Or.inr ⟨d9, rfl⟩⟩
      unfold f_Piece_soundsMade_18 f_Piece_soundsMade_38
      rw [if_pos hp, e11, if_pos (by decide), if_neg (by decide), if_pos hp]
end
end
section
section
/-! ===== perform, both sides: the call ===== -/
theorem PFD_e {s w c : Int} {F F' : zF} {B B' : zB} {Fm Fm' : zF} {Bm Bm' : zB} (h : PFD s w c F B Fm Bm) (f : F' 5 s = F 5 s) (b : B' 5 s = B 5 s) (fm : ∀ k, k = 53 ∨ k = 54 ∨ k = 60 ∨ k = 65 → Fm' 13 w k = Fm 13 w k) (bm : ∀ k x, 55 ≤ k → k ≤ 64 → Bm' 13 w k x = Bm 13 w k x) : PFD s w c F' B' Fm' Bm' := by
  unfold PFD SB kz SX at *
  rw [f, b, fm 53 (by first | decide | omega), fm 54 (by first | decide | omega), fm 60 (by first | decide | omega), fm 65 (by first | decide | omega)]
  simp only [bm 55 _ (by decide) (by decide), bm 56 _ (by decide) (by decide), bm 57 _ (by decide) (by decide), bm 58 _ (by decide) (by decide), bm 59 _ (by decide) (by decide), bm 61 _ (by decide) (by decide), bm 62 _ (by decide) (by decide), bm 63 _ (by decide) (by decide), bm 64 _ (by decide) (by decide)]
  exact h
/-- what perform may change -/
def pfF (K : zK) (p s : Int) (F F' : zF) : Prop := ∀ c y k, y < K.2 c → ¬ (c = 6 ∧ y = p ∧ 9 ≤ k ∧ k ≤ 11) → ¬ (c = 5 ∧ y = s) → F' c y k = F c y k
def pfB (K : zK) (s : Int) (B B' : zB) : Prop := ∀ c y k x, y < K.2 c → ¬ (c = 5 ∧ y = s) → B' c y k x = B c y k x
def pfG (w : Int) (F F' : zF) : Prop := ∀ c y k, ¬ (c = 14 ∧ y = 0 ∧ (k ≤ 1 ∨ k = 62)) → ¬ (c = 13 ∧ y = w ∧ (k = 53 ∨ k = 54 ∨ k = 60 ∨ (65 ≤ k ∧ k ≤ 69))) → F' c y k = F c y k
def pfM (w : Int) (B B' : zB) : Prop := ∀ c y k x, ¬ (c = 14 ∧ y = 0 ∧ 63 ≤ k ∧ k ≤ 69) → ¬ (c = 13 ∧ y = w ∧ 55 ≤ k ∧ k ≤ 71) → B' c y k x = B c y k x
def pfU (K : zK) (s : Int) (F F' : zF) : Prop := ∀ k, k = 2 ∨ k = 3 ∨ k = 11 ∨ k = 12 ∨ k = 13 → F' 5 s k = 0 ∨ (s < K.2 5 ∧ F' 5 s k = F 5 s k)
def pfV (w : Int) (F F' : zF) : Prop := (∀ k, 65 ≤ k → k ≤ 69 → F' 13 w k = 0) ∨ (∀ k, k = 53 ∨ (65 ≤ k ∧ k ≤ 69) → F' 13 w k = F 13 w k)
theorem P_prf {K : zK} {Km : Nat} {V p w : Int} {F : zF} {B : zB} {Fm : zF} {Bm : zB} (hK : 4100 ≤ K.1) (hKm : 812851200 < Km) (h5 : 0 ≤ K.2 5) (hP : PK K V p w F B Fm Bm) (hT : T61 Bm) (hD : PD K V p w F B Fm Bm) : ∃ r s F' B' K' Fm' Bm', zbindM (f_Piece_soundsMade K p F B) (fun r6 F6 B6 K6 => f_S_perform_16 K6 p r6 F6 B6) = some (r, F', B', K') ∧ zbind (f_M_gather Km w Fm Bm) (fun r4 F4 B4 => if r32 r4 then (if r4 ≤ 2000 then f_M_perform_41 Km Km 0 w (zup3 (zup3 F4 13 w 53 1) 13 w 54 (F4 14 0 62)) B4 else some ((-2), F4, B4)) else none) = some (r, Fm', Bm') ∧ K'.1 = K.1 ∧ (0 ≤ s ∧ s < K'.2 5) ∧ ((s = F 6 p 9 ∧ K' = K) ∨ (F 6 p 9 < 0 ∧ s = K.2 5 ∧ K' = (K.1, zinN K.2 5))) ∧ F' 6 p 9 = s ∧ pfF K p s F F' ∧ pfB K s B B' ∧ pfG w Fm Fm' ∧ pfM w Bm Bm' ∧ PD K' V p w F' B' Fm' Bm' ∧ pfU K s F F' ∧ pfV w Fm Fm' := by
  have hp := hP.1.1
  have w0 := hP.1.2.1
  obtain ⟨s, F1, B1, K1, x1, x2, x3, x4, x5, x6, x7, x8, x9, x10, x11⟩ := C_made (by first | decide | omega) h5 hP hT hD
  obtain ⟨d10, d11, d9, dr, ds, dp, dz⟩ := hD
  have hp1 : 0 ≤ p ∧ p < K1.2 6 := by
    rcases x4 with ⟨_, e⟩ | ⟨_, _, e⟩
    · rw [e]; exact hp
    · rw [e]; show 0 ≤ p ∧ p < zinN K.2 5 6; rw [zinN_v, if_neg (by decide)]; exact hp
  have f10 : F1 6 p 10 = F 6 p 10 := x8 6 p 10 hp.2 (by first | decide | omega) (by first | decide | omega)
  obtain ⟨Fm1, Bm1, y1, y2, y3, y4, y5, y6⟩ := SDR_ga hKm x5 hT
  have g53 : ∀ k, Fm1 13 w k = Fm 13 w k := fun k => y2 13 w k (by first | decide | omega)
  rw [x1, y1]
  simp only [zbM_s, zb_s]
  rw [if_pos (show r32 (Fm1 14 0 62) by unfold r32; omega)]
  unfold f_S_perform_16
  rw [if_pos x3]
  have pF1 : pfF K p s F F1 := fun c y k q0 q1 q2 => x8 c y k q0 (by first | decide | omega) q2
  have pB1 : pfB K s B B1 := fun c y k x q0 q1 => x9 c y k x q0 (by first | decide | omega)
  rcases y4 with ⟨g1, g2, g3, g4, g5⟩ | ⟨g1, g2, g3⟩
  · -- the strokes fit
    generalize hG : zup3 (zup3 Fm1 13 w 53 1) 13 w 54 (Fm1 14 0 62) = G
    have gn : ∀ c y k, ¬ (c = 13 ∧ y = w ∧ (k = 53 ∨ k = 54)) → G c y k = Fm1 c y k := fun c y k q => by rw [← hG, zup3_v, if_neg (by first | decide | omega), zup3_v, if_neg (by first | decide | omega)]
    obtain ⟨F', B', Fm', Bm', z1, z2, z3, z4, z5, z6, z7, z8, z9, z10⟩ := P_strk (K := K1) (Km := Km) (s := s) (w := w) (c := F1 5 s 0) (F := F1) (B := B1) (Fm := G) (Bm := Bm1) (by rw [x2]; exact hK) (by first | decide | omega) x3 w0 x7 ⟨g1, rfl, g3, g4⟩ (by rw [gn 14 0 62 (by first | decide | omega)]; exact g2.symm) ⟨by rw [← hG, zup3_v, if_neg (by first | decide | omega), zup3_v, if_pos (by first | decide | omega)], by rw [← hG, zup3_v, if_pos (by first | decide | omega)]; exact g2.symm⟩ g5
    have s9 : (zup3 F' 6 p 10 1) 6 p 9 = s := by rw [zup3_v, if_neg (by first | decide | omega), z4 6 p 9 (by first | decide | omega)]; exact x6.1
    refine ⟨F1 5 s 0, s, zup3 F' 6 p 10 1, B', K1, Fm', Bm', ?_, ?_, x2, x3, x4, s9, fun c y k q0 q1 q2 => ?_, fun c y k x q0 q1 => ?_, fun c y k q1 q2 => ?_, fun c y k x q1 q2 => ?_, ⟨Or.inr ?_, Or.inr ?_, ?_, fun _ => ?_, fun _ => ⟨?_, ?_⟩, fun _ => ⟨?_, F1 5 s 0, ?_⟩, fun q => ?_⟩, fun k hk => ?_, Or.inl (fun k k0 k1 => ?_)⟩
    · rw [g1, if_pos (by decide), if_pos rfl, z1]
      simp only [zbN_s]
      rw [if_pos hp1, z4 5 s 0 (by first | decide | omega)]
    · rw [if_pos (by first | decide | omega)]; exact z2
    · rw [zup3_v, if_neg (by first | decide | omega), z4 c y k (by first | decide | omega)]; exact pF1 c y k q0 q1 q2
    · rw [z6 c y k x (by first | decide | omega)]; exact pB1 c y k x q0 q1
    · rw [z7 c y k (by first | decide | omega), gn c y k (by first | decide | omega), y2 c y k (by first | decide | omega)]
    · rw [z9 c y k x (by first | decide | omega) (by first | decide | omega), y3 c y k x (by first | decide | omega)]
    · rw [zup3_v, if_pos (by first | decide | omega)]
    · rw [zup3_v, if_neg (by first | decide | omega), z4 6 p 11 (by first | decide | omega)]; exact x6.2
    · rw [s9]; exact x3.2
    · rw [s9]
      unfold rwS at z3 ⊢
      rw [zup3_v, if_neg (by first | decide | omega), zup3_v, if_neg (by first | decide | omega)]
      exact z3
    · rw [s9]; exact x3.1
    · rw [s9]
      refine SDR_e x5 ⟨by rw [zup3_v, if_neg (by first | decide | omega), z4 5 s 0 (by first | decide | omega)], by rw [zup3_v, if_neg (by first | decide | omega), z4 5 s 1 (by first | decide | omega)]⟩ (fun k x hk => z6 5 s k x (by first | decide | omega)) (fun k a b => by rw [z7 13 w k (by first | decide | omega), gn 13 w k (by first | decide | omega), g53]) (fun k x hk => by rw [z9 13 w k x (by first | decide | omega) (by first | decide | omega), y3 13 w k x (by first | decide | omega)])
    · rw [zup3_v, if_neg (by first | decide | omega), z4 6 p 11 (by first | decide | omega)]; exact x6.2
    · rw [s9]
      exact PFD_e z10 (by funext k; rw [zup3_v, if_neg (by first | decide | omega)]) rfl (fun _ _ => rfl) (fun _ _ _ _ => rfl)
    · rw [zup3_v, if_pos (by first | decide | omega)] at q; omega
    · rw [zup3_v, if_neg (by first | decide | omega)]
      by_cases e : k = 3
      · rw [e, z4 5 s 3 (by first | decide | omega)]; exact x11 3 (by first | decide | omega)
      · have : k = 2 ∨ k = 11 ∨ k = 12 ∨ k = 13 := by omega
        refine Or.inl ?_
        rcases this with rfl | rfl | rfl | rfl
        · exact z5.1
        · exact z5.2.1
        · exact z5.2.2.1
        · exact z5.2.2.2
    · have : k = 65 ∨ k = 66 ∨ k = 67 ∨ k = 68 ∨ k = 69 := by omega
      rcases this with rfl | rfl | rfl | rfl | rfl
      · exact z8.1
      · exact z8.2.1
      · exact z8.2.2.1
      · exact z8.2.2.2.1
      · exact z8.2.2.2.2
  · -- too many
    have e10 : F 6 p 10 = 0 := by
      rcases d10 with q | q
      · exact q
      · exfalso
        obtain ⟨e11, c, pfd⟩ := dp q
        obtain ⟨rfl, rfl⟩ := x10 e11
        rw [x6.1] at pfd
        have := pfd.1.1
        omega
    refine ⟨-2, s, F1, B1, K1, Fm1, Bm1, ?_, ?_, x2, x3, x4, x6.1, pF1, pB1, fun c y k q1 q2 => y2 c y k q1, fun c y k x q1 q2 => y3 c y k x (by first | decide | omega), ⟨Or.inl (by rw [f10]; exact e10), Or.inr x6.2, by rw [x6.1]; exact x3.2, fun _ => by rw [x6.1]; exact x7, fun _ => ⟨by rw [x6.1]; exact x3.1, ?_⟩, fun q => by rw [f10] at q; omega, fun _ => ?_⟩, x11, Or.inr (fun k _ => g53 k)⟩
    · rw [g1, if_pos (by decide), if_neg (by decide)]
    · rw [if_neg (by first | decide | omega)]
    · rw [x6.1]
      exact SDR_e x5 ⟨rfl, rfl⟩ (fun _ _ _ => rfl) (fun k a b => g53 k) (fun k x hk => y3 13 w k x (by first | decide | omega))
    · rw [g53]; exact dz e10
end
end
section
section
/-! ===== written bytes, both sides ===== -/
/-- n bytes written alike; all else as it was in q -/
def WB (q : zF × zB × zF × zB) (n : Int) (F : zF) (B : zB) (Fm : zF) (Bm : zB) : Prop := (F 0 1 1 = n ∧ Fm 14 0 71 = n ∧ 0 ≤ n) ∧ (∀ j, 0 ≤ j → j < n → B 0 1 0 j = Bm 14 0 70 j % 256) ∧ (∀ c y k, ¬ (c = 0 ∧ y = 1 ∧ 1 ≤ k ∧ k ≤ 2) → F c y k = q.1 c y k) ∧ (∀ c y k x, ¬ (c = 0 ∧ y = 1 ∧ k = 0) → B c y k x = q.2.1 c y k x) ∧ (∀ c y k, ¬ (c = 14 ∧ y = 0 ∧ k = 71) → Fm c y k = q.2.2.1 c y k) ∧ (∀ c y k x, ¬ (c = 14 ∧ y = 0 ∧ k = 70) → Bm c y k x = q.2.2.2 c y k x)
theorem zi2b_m (b : Int) : zi2b (zi2b b) % 256 = b % 256 := by
  rw [zi2b_i, zi2b_e, bmod256]
theorem W_put {K : zK} {Km : Nat} {q : zF × zB × zF × zB} {n a b : Int} {F : zF} {B : zB} {Fm : zF} {Bm : zB} (h0 : 2 ≤ K.2 0) (hn : n < 20480) (e : a % 256 = b % 256) (h : WB q n F B Fm Bm) : ∃ F' B' Fm' Bm', f_ByteRow_put K 1 a F B = some (0, F', B') ∧ f_M_put_0 Km b Fm Bm = some (0, Fm', Bm') ∧ WB q (n + 1) F' B' Fm' Bm' := by
  obtain ⟨⟨f1, m1, n0⟩, hb, gF, gB, gM, gN⟩ := h
  have ln : ((lnC 0 1 0 : Nat) : Int) = 20480 := by decide
  refine ⟨zup3 F 0 1 1 (n + 1), zup4 B 0 1 0 n (a % 256), zup3 Fm 14 0 71 (n + 1), zup4 Bm 14 0 70 n (zi2b (zi2b b)), ?_, ?_, ⟨by rw [zup3_v, if_pos (by first | decide | omega)], by rw [zup3_v, if_pos (by first | decide | omega)], (by first | decide | omega)⟩, fun j j0 j1 => ?_, fun c y k z => ?_, fun c y k x z => ?_, fun c y k z => ?_, fun c y k x z => ?_⟩
  · unfold f_ByteRow_put
    rw [f1, ln, if_pos (by first | decide | omega), if_pos (by unfold r32; omega), if_pos (by unfold r32; omega), if_pos hn, if_pos (by first | decide | omega), zand255]
  · unfold f_M_put_0 f_M_put_0_20
    rw [m1, if_pos (by unfold r32; omega), if_neg (by first | decide | omega), if_pos (by first | decide | omega)]
  · rw [zup4_v, zup4_v]
    by_cases z : j = n
    · rw [if_pos (by first | decide | omega), if_pos (by first | decide | omega), zi2b_m]; exact e
    · rw [if_neg (by first | decide | omega), if_neg (by first | decide | omega)]; exact hb j j0 (by first | decide | omega)
  · rw [zup3_v, if_neg (by first | decide | omega)]; exact gF c y k z
  · rw [zup4_v, if_neg (by first | decide | omega)]; exact gB c y k x z
  · rw [zup3_v, if_neg (by first | decide | omega)]; exact gM c y k z
  · rw [zup4_v, if_neg (by first | decide | omega)]; exact gN c y k x z
theorem P_put {K : zK} {Km : Nat} {q : zF × zB × zF × zB} {n a b : Int} {F : zF} {B : zB} {Fm : zF} {Bm : zB} {f g : Int → zF → zB → zO} {Q : Int → zF → zB → Int → zF → zB → Prop} (h0 : 2 ≤ K.2 0) (h : WB q n F B Fm Bm) (hn : n < 20480) (e : a % 256 = b % 256) (k : ∀ F' B' Fm' Bm', WB q (n + 1) F' B' Fm' Bm' → zP (f 0 F' B') (g 0 Fm' Bm') Q) : zP (zbind (f_ByteRow_put K 1 a F B) f) (zbind (f_M_put_0 Km b Fm Bm) g) Q := by
  obtain ⟨F', B', Fm', Bm', x1, x2, x3⟩ := W_put (Km := Km) h0 hn e h
  rw [x1, x2]
  exact k F' B' Fm' Bm' x3
theorem P_some {r r' : Int} {F : zF} {B : zB} {Fm : zF} {Bm : zB} {Q : Int → zF → zB → Int → zF → zB → Prop} (h : Q r F B r' Fm Bm) : zP (some (r, F, B)) (some (r', Fm, Bm)) Q := ⟨r, F, B, r', Fm, Bm, rfl, rfl, h⟩
theorem P_bind {x y : zO} {f g : Int → zF → zB → zO} {R Q : Int → zF → zB → Int → zF → zB → Prop} (h : zP x y R) (k : ∀ r F B r' Fm Bm, R r F B r' Fm Bm → zP (f r F B) (g r' Fm Bm) Q) : zP (zbind x f) (zbind y g) Q := by
  obtain ⟨r, F, B, r', Fm, Bm, h1, h2, h3⟩ := h
  rw [h1, h2]
  exact k _ _ _ _ _ _ h3
theorem zb_a2 {x : zO} {t k : Int → zF → zB → zO} : zbind (zbind x t) k = zbind x (fun r F B => zbind (t r F B) k) := by
  cases x with
  | none => rfl
  | some q => rfl
/-- written so far: the answer's own shape -/
def WA (q : zF × zB × zF × zB) (n : Int) : Int → zF → zB → Int → zF → zB → Prop := fun _ F B _ Fm Bm => WB q n F B Fm Bm
theorem P_meta {K : zK} {Km : Nat} {q : zF × zB × zF × zB} {n a b : Int} {F : zF} {B : zB} {Fm : zF} {Bm : zB} {f g : Int → zF → zB → zO} {Q : Int → zF → zB → Int → zF → zB → Prop} (h0 : 2 ≤ K.2 0) (h : WB q n F B Fm Bm) (hn : n < 20470) (k : ∀ F' B' Fm' Bm', WB q (n + 4) F' B' Fm' Bm' → zP (f 0 F' B') (g 0 Fm' Bm') Q) : zP (zbind (f_Performance_putMeta K 1 a b F B) f) (zbind (f_M_put_0 Km 0 Fm Bm) (fun _ F B => zbind (f_M_put_0 Km 255 F B) (fun _ F B => zbind (f_M_put_0 Km a F B) (fun _ F B => zbind (f_M_put_0 Km b F B) g)))) Q := by
  unfold f_Performance_putMeta
  rw [if_pos (by first | decide | omega)]
  simp only [zb_a2]
  refine P_put h0 h (by first | decide | omega) rfl (fun F1 B1 G1 D1 w1 => ?_)
  refine P_put h0 w1 (by first | decide | omega) rfl (fun F2 B2 G2 D2 w2 => ?_)
  refine P_put h0 w2 (by first | decide | omega) rfl (fun F3 B3 G3 D3 w3 => ?_)
  refine P_put h0 w3 (by first | decide | omega) rfl (fun F4 B4 G4 D4 w4 => ?_)
  rw [show n + 1 + 1 + 1 + 1 = n + 4 by omega] at w4
  exact k _ _ _ _ w4
/-- wide numbers -/
theorem ush_m {a s : Int} (hs : s = 0 ∨ s = 8 ∨ s = 16 ∨ s = 24) : zushr a s % 256 = (a / 2 ^ s.toNat) % 256 := by
  rw [← zand255, zushr_byte hs]
theorem C_wide {K : zK} {a l : Int} {F : zF} {B : zB} (h0 : 2 ≤ K.2 0) (m : Nat) (hl : 0 ≤ l ∧ l ≤ 3) : f_ByteRow_putWide_4 K (m + 1) l 1 a F B = zbind (f_ByteRow_put K 1 (zushr a (8 * l)) F B) (fun _ F B => f_ByteRow_putWide_4 K m (l - 1) 1 a F B) := by
  unfold f_ByteRow_putWide_4
  rw [if_pos (by unfold r32; omega), if_neg (by first | decide | omega), if_pos (by first | decide | omega)]
  cases m <;> rfl
theorem C_wideE {K : zK} {a : Int} {F : zF} {B : zB} (m : Nat) : f_ByteRow_putWide_4 K (m + 1) (-1) 1 a F B = some (0, F, B) := by
  unfold f_ByteRow_putWide_4
  rw [if_pos (by decide), if_pos (by decide)]
theorem C_w2 {K : zK} {a : Int} {F : zF} {B : zB} (h0 : 2 ≤ K.2 0) (hK : 10 ≤ K.1) : f_ByteRow_putWide K 1 a 2 F B = zbind (f_ByteRow_put K 1 (zushr a 8) F B) (fun _ F B => zbind (f_ByteRow_put K 1 (zushr a 0) F B) (fun _ F B => some (0, F, B))) := by
  obtain ⟨m, e⟩ : ∃ m, K.1 = m + 1 + 1 + 1 := ⟨K.1 - 3, (by first | decide | omega)⟩
  unfold f_ByteRow_putWide
  rw [e, C_wide h0 _ (by first | decide | omega)]
  simp only [show (2 : Int) - 1 = 1 from rfl, show (8 : Int) * 1 = 8 from rfl, show (1 : Int) - 1 = 0 from rfl]
  simp only [C_wide (l := 0) h0 _ (by first | decide | omega), show (0 : Int) - 1 = -1 from rfl, C_wideE, show (8 : Int) * 0 = 0 from rfl]
theorem C_w3 {K : zK} {a : Int} {F : zF} {B : zB} (h0 : 2 ≤ K.2 0) (hK : 10 ≤ K.1) : f_ByteRow_putWide K 1 a 3 F B = zbind (f_ByteRow_put K 1 (zushr a 16) F B) (fun _ F B => zbind (f_ByteRow_put K 1 (zushr a 8) F B) (fun _ F B => zbind (f_ByteRow_put K 1 (zushr a 0) F B) (fun _ F B => some (0, F, B)))) := by
  obtain ⟨m, e⟩ : ∃ m, K.1 = m + 1 + 1 + 1 + 1 := ⟨K.1 - 4, (by first | decide | omega)⟩
  unfold f_ByteRow_putWide
  rw [e, C_wide h0 _ (by first | decide | omega)]
  simp only [show (3 : Int) - 1 = 2 from rfl, show (8 : Int) * 2 = 16 from rfl, show (2 : Int) - 1 = 1 from rfl]
  simp only [C_wide (l := 1) h0 _ (by first | decide | omega), show (8 : Int) * 1 = 8 from rfl, show (1 : Int) - 1 = 0 from rfl]
  simp only [C_wide (l := 0) h0 _ (by first | decide | omega), show (0 : Int) - 1 = -1 from rfl, C_wideE, show (8 : Int) * 0 = 0 from rfl]
theorem C_w4 {K : zK} {a : Int} {F : zF} {B : zB} (h0 : 2 ≤ K.2 0) (hK : 10 ≤ K.1) : f_ByteRow_putWide K 1 a 4 F B = zbind (f_ByteRow_put K 1 (zushr a 24) F B) (fun _ F B => zbind (f_ByteRow_put K 1 (zushr a 16) F B) (fun _ F B => zbind (f_ByteRow_put K 1 (zushr a 8) F B) (fun _ F B => zbind (f_ByteRow_put K 1 (zushr a 0) F B) (fun _ F B => some (0, F, B))))) := by
  obtain ⟨m, e⟩ : ∃ m, K.1 = m + 1 + 1 + 1 + 1 + 1 := ⟨K.1 - 5, (by first | decide | omega)⟩
  unfold f_ByteRow_putWide
  rw [e, C_wide h0 _ (by first | decide | omega)]
  simp only [show (4 : Int) - 1 = 3 from rfl, show (8 : Int) * 3 = 24 from rfl, show (3 : Int) - 1 = 2 from rfl]
  simp only [C_wide (l := 2) h0 _ (by first | decide | omega), show (8 : Int) * 2 = 16 from rfl, show (2 : Int) - 1 = 1 from rfl]
  simp only [C_wide (l := 1) h0 _ (by first | decide | omega), show (8 : Int) * 1 = 8 from rfl, show (1 : Int) - 1 = 0 from rfl]
  simp only [C_wide (l := 0) h0 _ (by first | decide | omega), show (0 : Int) - 1 = -1 from rfl, C_wideE, show (8 : Int) * 0 = 0 from rfl]
theorem L_four1 {Km : Nat} {a l : Int} {F : zF} {B : zB} (m : Nat) (hl : 0 ≤ l ∧ l ≤ 24) : f_M_four_3 Km (m + 1) l a F B = zbind (f_M_put_0 Km (zand (zshr a l) 255) F B) (fun _ F B => f_M_four_3 Km m (l - 8) a F B) := by
  unfold f_M_four_3
  rw [if_pos (by unfold r32; omega), if_neg (by first | decide | omega)]
  cases m <;> rfl
theorem L_fourE {Km : Nat} {a : Int} {F : zF} {B : zB} (m : Nat) : f_M_four_3 Km (m + 1) (-8) a F B = some (0, F, B) := by
  unfold f_M_four_3
  rw [if_pos (by decide), if_pos (by decide)]
theorem L_four {Km : Nat} {a : Int} {F : zF} {B : zB} (hK : 10 ≤ Km) : f_M_four Km a F B = zbind (f_M_put_0 Km (zand (zshr a 24) 255) F B) (fun _ F B => zbind (f_M_put_0 Km (zand (zshr a 16) 255) F B) (fun _ F B => zbind (f_M_put_0 Km (zand (zshr a 8) 255) F B) (fun _ F B => zbind (f_M_put_0 Km (zand (zshr a 0) 255) F B) (fun _ F B => some (0, F, B))))) := by
  obtain ⟨m, e⟩ : ∃ m, Km = m + 1 + 1 + 1 + 1 + 1 := ⟨Km - 5, (by first | decide | omega)⟩
  have g : ∀ u, f_M_four u a F B = f_M_four_3 u u 24 a F B := fun _ => rfl
  rw [g]
  have k : ∀ i, i = m + 1 + 1 + 1 + 1 + 1 → f_M_four_3 Km i 24 a F B = zbind (f_M_put_0 Km (zand (zshr a 24) 255) F B) (fun _ F B => zbind (f_M_put_0 Km (zand (zshr a 16) 255) F B) (fun _ F B => zbind (f_M_put_0 Km (zand (zshr a 8) 255) F B) (fun _ F B => zbind (f_M_put_0 Km (zand (zshr a 0) 255) F B) (fun _ F B => some (0, F, B))))) := fun i ei => by
    rw [ei, L_four1 _ (by first | decide | omega)]
    simp only [show (24 : Int) - 8 = 16 from rfl, L_four1 (l := 16) _ (by first | decide | omega), show (16 : Int) - 8 = 8 from rfl]
    simp only [L_four1 (l := 8) _ (by first | decide | omega), show (8 : Int) - 8 = 0 from rfl]
    simp only [L_four1 (l := 0) _ (by first | decide | omega), show (0 : Int) - 8 = -8 from rfl, L_fourE]
  exact k Km e
theorem by_sh {a s : Int} (ha : r32 a) (hs : s = 0 ∨ s = 8 ∨ s = 16 ∨ s = 24) : zushr a s % 256 = zand (zshr a s) 255 % 256 := by
  rw [ush_m hs, zand255, zshr_byte ha hs]
  omega
theorem P_four {K : zK} {Km : Nat} {q : zF × zB × zF × zB} {n a : Int} {F : zF} {B : zB} {Fm : zF} {Bm : zB} {f g : Int → zF → zB → zO} {Q : Int → zF → zB → Int → zF → zB → Prop} (h0 : 2 ≤ K.2 0) (hK : 10 ≤ K.1) (hKm : 10 ≤ Km) (ha : r32 a) (h : WB q n F B Fm Bm) (hn : n < 20470) (k : ∀ F' B' Fm' Bm', WB q (n + 4) F' B' Fm' Bm' → zP (f 0 F' B') (g 0 Fm' Bm') Q) : zP (zbind (f_ByteRow_putWide K 1 a 4 F B) f) (zbind (f_M_four Km a Fm Bm) g) Q := by
  rw [C_w4 h0 hK, L_four hKm]
  simp only [zb_a2]
  refine P_put h0 h (by first | decide | omega) (by_sh ha (by first | decide | omega)) (fun F1 B1 G1 D1 w1 => ?_)
  refine P_put h0 w1 (by first | decide | omega) (by_sh ha (by first | decide | omega)) (fun F2 B2 G2 D2 w2 => ?_)
  refine P_put h0 w2 (by first | decide | omega) (by_sh ha (by first | decide | omega)) (fun F3 B3 G3 D3 w3 => ?_)
  refine P_put h0 w3 (by first | decide | omega) (by_sh ha (by first | decide | omega)) (fun F4 B4 G4 D4 w4 => ?_)
  rw [show n + 1 + 1 + 1 + 1 = n + 4 by omega] at w4
  exact k _ _ _ _ w4
theorem P_two {K : zK} {Km : Nat} {q : zF × zB × zF × zB} {n a : Int} {F : zF} {B : zB} {Fm : zF} {Bm : zB} {f g : Int → zF → zB → zO} {Q : Int → zF → zB → Int → zF → zB → Prop} (h0 : 2 ≤ K.2 0) (hK : 10 ≤ K.1) (ha : 0 ≤ a ∧ a < 256) (h : WB q n F B Fm Bm) (hn : n < 20470) (k : ∀ F' B' Fm' Bm', WB q (n + 2) F' B' Fm' Bm' → zP (f 0 F' B') (g 0 Fm' Bm') Q) : zP (zbind (f_ByteRow_putWide K 1 a 2 F B) f) (zbind (f_M_put_0 Km 0 Fm Bm) (fun _ F B => zbind (f_M_put_0 Km a F B) g)) Q := by
  rw [C_w2 h0 hK]
  simp only [zb_a2]
  refine P_put h0 h (by first | decide | omega) (by rw [ush_m (by first | decide | omega)]; show a / 256 % 256 = 0 % 256; omega) (fun F1 B1 G1 D1 w1 => ?_)
  refine P_put h0 w1 (by first | decide | omega) (by rw [ush_m (by first | decide | omega)]; show a / 1 % 256 = a % 256; omega) (fun F2 B2 G2 D2 w2 => ?_)
  rw [show n + 1 + 1 = n + 2 by omega] at w2
  exact k _ _ _ _ w2
end
end
section
section
/-! ===== tracks: their beginning and their end ===== -/
theorem C_txt {K : zK} {s : Nat} {k : Int} {F : zF} {B : zB} (h0 : 2 ≤ K.2 0) (m : Nat) (hs : s < strL.length) (hz : zshr (zsl s) 0 = zsl s) (k0 : 0 ≤ k) (k1 : k < zsl s) (k2 : zsl s ≤ 1000) : f_ByteRow_putText_2 K (m + 1) k 1 s F B = zbind (f_ByteRow_put K 1 (zsc s k) F B) (fun _ F B => f_ByteRow_putText_2 K m (k + 1) 1 s F B) := by
  unfold f_ByteRow_putText_2
  rw [if_pos hs, C_slen hs hz, zb_s, if_pos (by unfold r32; omega), if_pos (by unfold r32; omega), if_neg (by first | decide | omega), C_schar hs k0 k1 k2, zb_s, if_pos (by first | decide | omega)]
  cases m <;> rfl
theorem C_txtE {K : zK} {s : Nat} {F : zF} {B : zB} (m : Nat) (hs : s < strL.length) (hz : zshr (zsl s) 0 = zsl s) (k2 : 0 ≤ zsl s ∧ zsl s ≤ 1000) : f_ByteRow_putText_2 K (m + 1) (zsl s) 1 s F B = some (0, F, B) := by
  unfold f_ByteRow_putText_2
  rw [if_pos hs, C_slen hs hz, zb_s, if_pos (by unfold r32; omega), if_pos (by unfold r32; omega), if_pos (by first | decide | omega)]
theorem L_txt {Km : Nat} {s : Nat} {k : Int} {F : zF} {B : zB} (m : Nat) (hs : s < strL.length) (hz : zshr (zsl s) 0 = zsl s) (k0 : 0 ≤ k) (k1 : k < zsl s) (k2 : zsl s ≤ 1000) : f_M_put_1_2 Km (m + 1) k s F B = zbind (f_M_put_0 Km (zsc s k) F B) (fun _ F B => f_M_put_1_2 Km m (k + 1) s F B) := by
  unfold f_M_put_1_2
  rw [if_pos hs, L_slen hs hz, zb_s, if_pos (by unfold r32; omega), if_pos (by unfold r32; omega), if_neg (by first | decide | omega), L_schar hs k0 k1 k2, zb_s]
  cases m <;> rfl
theorem L_txtE {Km : Nat} {s : Nat} {F : zF} {B : zB} (m : Nat) (hs : s < strL.length) (hz : zshr (zsl s) 0 = zsl s) (k2 : 0 ≤ zsl s ∧ zsl s ≤ 1000) : f_M_put_1_2 Km (m + 1) (zsl s) s F B = some (0, F, B) := by
  unfold f_M_put_1_2
  rw [if_pos hs, L_slen hs hz, zb_s, if_pos (by unfold r32; omega), if_pos (by unfold r32; omega), if_pos (by first | decide | omega)]
theorem P_tx {K : zK} {Km : Nat} {q : zF × zB × zF × zB} {s t : Nat} (h0 : 2 ≤ K.2 0) (hs : s < strL.length) (ht : t < strL.length) (es : zsl s = 4) (et : zsl t = 4) (e : ∀ k, 0 ≤ k → k < 4 → zsc s k = zsc t k) : ∀ (d : Nat) (k n : Int) (m1 m2 : Nat) (F : zF) (B : zB) (Fm : zF) (Bm : zB), k = 4 - d → 0 ≤ k → d < m1 → d < m2 → n < 20475 - d → WB q n F B Fm Bm → zP (f_ByteRow_putText_2 K m1 k 1 s F B) (f_M_put_1_2 Km m2 k t Fm Bm) (WA q (n + d)) := by
  have hz : zshr (zsl s) 0 = zsl s := by rw [es]; decide
  have hy : zshr (zsl t) 0 = zsl t := by rw [et]; decide
  intro d
  induction d with
  | zero =>
    intro k n m1 m2 F B Fm Bm ek k0 l1 l2 hn h
    obtain ⟨a, rfl⟩ : ∃ a, m1 = a + 1 := ⟨m1 - 1, (by first | decide | omega)⟩
    obtain ⟨b, rfl⟩ : ∃ b, m2 = b + 1 := ⟨m2 - 1, (by first | decide | omega)⟩
    have e4 : k = 4 := by omega
    have c := C_txtE (K := K) (F := F) (B := B) a hs hz (by first | decide | omega)
    have l := L_txtE (Km := Km) (F := Fm) (B := Bm) b ht hy (by first | decide | omega)
    rw [es] at c
    rw [et] at l
    rw [e4, c, l]
    refine P_some ?_
    show WB q (n + ((0 : Nat) : Int)) F B Fm Bm
    rw [show n + ((0 : Nat) : Int) = n by omega]
    exact h
  | succ d ih =>
    intro k n m1 m2 F B Fm Bm ek k0 l1 l2 hn h
    obtain ⟨a, rfl⟩ : ∃ a, m1 = a + 1 := ⟨m1 - 1, (by first | decide | omega)⟩
    obtain ⟨b, rfl⟩ : ∃ b, m2 = b + 1 := ⟨m2 - 1, (by first | decide | omega)⟩
    rw [C_txt h0 a hs hz k0 (by first | decide | omega) (by first | decide | omega), L_txt b ht hy k0 (by first | decide | omega) (by first | decide | omega)]
    refine P_put h0 h (by first | decide | omega) (by rw [e k k0 (by first | decide | omega)]) (fun F1 B1 G1 D1 w1 => ?_)
    have := ih (k + 1) (n + 1) a b F1 B1 G1 D1 (by first | decide | omega) (by first | decide | omega) (by first | decide | omega) (by first | decide | omega) (by first | decide | omega) w1
    rw [show n + 1 + (d : Int) = n + ((d + 1 : Nat) : Int) by omega] at this
    exact this
theorem str_h : ∀ k, 0 ≤ k → k < 4 → zsc 1 k = zsc 36 k := fun k k0 k1 => by
  have : k = 0 ∨ k = 1 ∨ k = 2 ∨ k = 3 := by omega
  rcases this with rfl | rfl | rfl | rfl <;> decide
theorem str_t : ∀ k, 0 ≤ k → k < 4 → zsc 2 k = zsc 37 k := fun k k0 k1 => by
  have : k = 0 ∨ k = 1 ∨ k = 2 ∨ k = 3 := by omega
  rcases this with rfl | rfl | rfl | rfl <;> decide
theorem P_head {K : zK} {Km : Nat} {q : zF × zB × zF × zB} {n : Int} {F : zF} {B : zB} {Fm : zF} {Bm : zB} (h0 : 2 ≤ K.2 0) (hK : 10 ≤ K.1) (hKm : 10 ≤ Km) (hn : n < 20400) (h : WB q n F B Fm Bm) : zP (f_ByteRow_putText K 1 1 F B) (f_M_put_1 Km 36 Fm Bm) (WA q (n + 4)) :=
  P_tx h0 (by decide) (by decide) (by decide) (by decide) str_h 4 0 n _ _ F B Fm Bm (by first | decide | omega) (by first | decide | omega) (by first | decide | omega) (by first | decide | omega) (by first | decide | omega) h
/-- a track begun: the answer is the place behind its head -/
def WT2 (q : zF × zB × zF × zB) (n : Int) : Int → zF → zB → Int → zF → zB → Prop := fun r F B r' Fm Bm => (r = n ∧ r' = n) ∧ WB q n F B Fm Bm
theorem P_trk {K : zK} {Km : Nat} {q : zF × zB × zF × zB} {n : Int} {F : zF} {B : zB} {Fm : zF} {Bm : zB} (h0 : 2 ≤ K.2 0) (hK : 10 ≤ K.1) (hKm : 10 ≤ Km) (hn : n < 20400) (h : WB q n F B Fm Bm) : zP (f_Performance_beginTrack K 1 F B) (f_M_beginTrack Km Fm Bm) (WT2 q (n + 8)) := by
  unfold f_Performance_beginTrack f_M_beginTrack
  rw [if_pos (by first | decide | omega)]
  refine P_bind (P_tx (Km := Km) (q := q) h0 (by decide) (by decide) (by decide) (by decide) str_t 4 0 n _ _ F B Fm Bm (by first | decide | omega) (by first | decide | omega) (by first | decide | omega) (by first | decide | omega) (by first | decide | omega) h) (fun r F1 B1 r' G1 D1 w1 => ?_)
  refine P_four h0 hK hKm (by decide) w1 (by first | decide | omega) (fun F2 B2 G2 D2 w2 => ?_)
  refine P_some ⟨⟨?_, ?_⟩, ?_⟩
  · rw [w2.1.1]; omega
  · rw [w2.1.2.1]; omega
  · rw [show n + ((4 : Nat) : Int) + 4 = n + 8 by omega] at w2; exact w2
/-- a byte set -/
theorem W_set {q : zF × zB × zF × zB} {n x a b : Int} {F : zF} {B : zB} {Fm : zF} {Bm : zB} (e : a = b % 256) (h : WB q n F B Fm Bm) : WB q n F (zup4 B 0 1 0 x a) Fm (zup4 Bm 14 0 70 x (zi2b (zi2b b))) := by
  obtain ⟨h1, hb, gF, gB, gM, gN⟩ := h
  refine ⟨h1, fun j j0 j1 => ?_, gF, fun c y k z g => ?_, gM, fun c y k z g => ?_⟩
  · rw [zup4_v, zup4_v]
    by_cases z : j = x
    · rw [if_pos (by first | decide | omega), if_pos (by first | decide | omega), zi2b_m]; exact e
    · rw [if_neg (by first | decide | omega), if_neg (by first | decide | omega)]; exact hb j j0 j1
  · rw [zup4_v, if_neg (by first | decide | omega)]; exact gB c y k z g
  · rw [zup4_v, if_neg (by first | decide | omega)]; exact gN c y k z g
theorem P_sw {K : zK} {Km : Nat} {q : zF × zB × zF × zB} {n x v : Int} (h0 : 2 ≤ K.2 0) (hv : r32 v) (hx : 4 ≤ x ∧ x ≤ n) (hn : n ≤ 20480) : ∀ (d : Nat) (k : Int) (m1 m2 : Nat) (F : zF) (B : zB) (Fm : zF) (Bm : zB), k = 4 - d → 0 ≤ k → d < m1 → d < m2 → WB q n F B Fm Bm → zP (f_ByteRow_setWide_2 K m1 k 1 (x - 4) v F B) (f_M_endTrack_32 Km m2 k v x Fm Bm) (WA q n) := by
  have ln : ((lnC 0 1 0 : Nat) : Int) = 20480 := by decide
  intro d
  induction d with
  | zero =>
    intro k m1 m2 F B Fm Bm ek k0 l1 l2 h
    obtain ⟨a, rfl⟩ : ∃ a, m1 = a + 1 := ⟨m1 - 1, (by first | decide | omega)⟩
    obtain ⟨b, rfl⟩ : ∃ b, m2 = b + 1 := ⟨m2 - 1, (by first | decide | omega)⟩
    unfold f_ByteRow_setWide_2 f_M_endTrack_32
    rw [if_pos (by unfold r32; omega), if_pos (by first | decide | omega), if_pos (by unfold r32; omega), if_pos (by first | decide | omega)]
    exact P_some h
  | succ d ih =>
    intro k m1 m2 F B Fm Bm ek k0 l1 l2 h
    obtain ⟨a, rfl⟩ : ∃ a, m1 = a + 1 := ⟨m1 - 1, (by first | decide | omega)⟩
    obtain ⟨b, rfl⟩ : ∃ b, m2 = b + 1 := ⟨m2 - 1, (by first | decide | omega)⟩
    unfold f_ByteRow_setWide_2 f_M_endTrack_32 f_ByteRow_setWide_44
    rw [h.1.1, ln]
    rw [if_pos (show r32 k by unfold r32; omega), if_neg (show ¬ 4 ≤ k by omega), if_pos (show r32 (x - 4 + k) by unfold r32; omega), if_neg (show ¬ x - 4 + k < 0 by omega), if_pos (show (0 : Int) ≤ 1 ∧ 1 < K.2 0 by omega), if_pos (show r32 n by unfold r32; omega), if_neg (show ¬ n ≤ x - 4 + k by omega), if_pos (show 0 ≤ x - 4 + k ∧ x - 4 + k < 20480 by omega)]
    rw [if_pos (show r32 k by unfold r32; omega), if_neg (show ¬ 4 ≤ k by omega), if_pos (show 0 ≤ x - 4 + k ∧ x - 4 + k < 40000 by omega)]
    exact ih (k + 1) a b F _ Fm _ (by first | decide | omega) (by first | decide | omega) (by first | decide | omega) (by first | decide | omega) (W_set (by rw [zushr_byte (by first | decide | omega), zshr_byte hv (by first | decide | omega)]) h)
theorem P_end {K : zK} {Km : Nat} {q : zF × zB × zF × zB} {n x : Int} {F : zF} {B : zB} {Fm : zF} {Bm : zB} (h0 : 2 ≤ K.2 0) (hK : 10 ≤ K.1) (hKm : 10 ≤ Km) (hn : n < 20400) (hx : 4 ≤ x ∧ x ≤ n) (h : WB q n F B Fm Bm) : zP (f_Performance_endTrack K 1 x F B) (f_M_endTrack Km x Fm Bm) (WA q (n + 4)) := by
  unfold f_Performance_endTrack f_M_endTrack
  refine P_meta h0 h (by first | decide | omega) (fun F1 B1 G1 D1 w1 => ?_)
  rw [if_pos (by first | decide | omega), w1.1.1, w1.1.2.1]
  unfold f_ByteRow_setWide
  obtain ⟨r, F2, B2, r', G2, D2, x1, x2, x3⟩ := P_sw (Km := Km) (q := q) (v := n + 4 - x) h0 (by unfold r32; omega) (show 4 ≤ x ∧ x ≤ n + 4 by omega) (by first | decide | omega) 4 0 K.1 Km F1 B1 G1 D1 (by first | decide | omega) (by first | decide | omega) (by first | decide | omega) (by first | decide | omega) w1
  rw [x1, x2, zb_s]
  exact P_some x3
end
end
section
section
/-! ===== deltas and strokes as they are told ===== -/
theorem ush_k {a : Int} (h0 : 0 ≤ a) (h1 : a < 2147483648) (k : Nat) : (BitVec.ofInt 32 a >>> k).toInt = a / 2 ^ k := by
  obtain ⟨n, rfl⟩ := Int.eq_ofNat_of_zero_le h0
  have k1 : (BitVec.ofInt 32 (n : Int)).toNat = n := by
    rw [BitVec.toNat_ofInt]
    show ((n : Int) % 4294967296).toNat = n
    omega
  have e : (BitVec.ofInt 32 (n : Int) >>> k).toNat = n / 2 ^ k := by
    rw [BitVec.toNat_ushiftRight, k1, Nat.shiftRight_eq_div_pow]
  have l : n / 2 ^ k ≤ n := Nat.div_le_self _ _
  rw [BitVec.toInt_eq_toNat_of_lt (by rw [e]; omega), e]
  rw [Int.natCast_ediv, Int.natCast_pow]
  rfl
theorem ssh_k {a : Int} (ha : r32 a) (k : Nat) : ((BitVec.ofInt 32 a).sshiftRight k).toInt = a / 2 ^ k := by
  rw [BitVec.toInt_sshiftRight, Int.shiftRight_eq_div_pow, BitVec.toInt_ofInt, Int.bmod_eq_of_le (by have := ha.1; omega) (by have := ha.2; omega)]
  rfl
theorem dl_u {a : Int} (h0 : 0 ≤ a) (h1 : a < 2147483648) : zushr a 21 = a / 2097152 ∧ zushr a 14 = a / 16384 ∧ zushr a 7 = a / 128 := ⟨ush_k h0 h1 21, ush_k h0 h1 14, ush_k h0 h1 7⟩
theorem dl_s {a : Int} (ha : r32 a) : zshr a 28 = a / 268435456 ∧ zshr a 21 = a / 2097152 ∧ zshr a 14 = a / 16384 ∧ zshr a 7 = a / 128 := ⟨ssh_k ha 28, ssh_k ha 21, ssh_k ha 14, ssh_k ha 7⟩
theorem zor_c (a b : Int) : zor a b = zor b a := by
  unfold zor
  rw [Int32.or_comm]
theorem C_dS {K : zK} {d l : Int} {F : zF} {B : zB} (m : Nat) (hl : 0 < l ∧ l ≤ 3) (hz : zushr d (7 * l) = 0) : f_ByteRow_putDelta_2 K (m + 1) l 1 d F B = f_ByteRow_putDelta_2 K m (l - 1) 1 d F B := by
  rw [f_ByteRow_putDelta_2]
  unfold f_ByteRow_putDelta_32
  rw [if_pos (by unfold r32; omega), if_neg (by first | decide | omega), hz, if_pos (by decide), if_pos rfl]
theorem C_dP {K : zK} {d l y : Int} {F : zF} {B : zB} (h0 : 2 ≤ K.2 0) (m : Nat) (hl : 0 < l ∧ l ≤ 3) (hz : zushr d (7 * l) = y) (hy : 0 < y ∧ y < 2147483648) : f_ByteRow_putDelta_2 K (m + 1) l 1 d F B = zbind (f_ByteRow_put K 1 (zor (zand y 127) 128) F B) (fun _ F B => f_ByteRow_putDelta_2 K m (l - 1) 1 d F B) := by
  rw [f_ByteRow_putDelta_2]
  unfold f_ByteRow_putDelta_32
  rw [if_pos (by unfold r32; omega), if_neg (by first | decide | omega), hz, if_pos (by unfold r32; omega), if_neg (by first | decide | omega), if_pos (by first | decide | omega)]
theorem C_dE {K : zK} {d : Int} {F : zF} {B : zB} (h0 : 2 ≤ K.2 0) (m : Nat) : f_ByteRow_putDelta_2 K (m + 1) 0 1 d F B = zbind (f_ByteRow_put K 1 (zand d 127) F B) (fun _ F B => some (0, F, B)) := by
  rw [f_ByteRow_putDelta_2, if_pos (by decide), if_pos (by decide), if_pos (by first | decide | omega)]
theorem L_dS {Km : Nat} {d l y : Int} {F : zF} {B : zB} (m : Nat) (hl : 0 < l ∧ l ≤ 28) (hz : zshr d l = y) (hy : y = 0) : f_M_delta_3 Km (m + 1) l d F B = f_M_delta_3 Km m (l - 7) d F B := by
  rw [f_M_delta_3]
  unfold f_M_delta_27
  rw [if_pos (by unfold r32; omega), if_neg (by first | decide | omega), hz, hy, if_pos (by decide), if_pos (by decide)]
theorem L_dP {Km : Nat} {d l y : Int} {F : zF} {B : zB} (m : Nat) (hl : 0 < l ∧ l ≤ 28) (hz : zshr d l = y) (hy : 0 < y ∧ y < 2147483648) : f_M_delta_3 Km (m + 1) l d F B = zbind (f_M_put_0 Km (zor 128 (zand y 127)) F B) (fun _ F B => f_M_delta_3 Km m (l - 7) d F B) := by
  rw [f_M_delta_3]
  unfold f_M_delta_27
  rw [if_pos (by unfold r32; omega), if_neg (by first | decide | omega), hz, if_pos (by unfold r32; omega), if_neg (by first | decide | omega)]
theorem L_dE {Km : Nat} {d : Int} {F : zF} {B : zB} (m : Nat) : f_M_delta_3 Km (m + 1) 0 d F B = zbind (f_M_put_0 Km (zand d 127) F B) (fun _ F B => some (0, F, B)) := by
  rw [f_M_delta_3, if_pos (by decide), if_pos (by decide)]
theorem P_delta {K : zK} {Km : Nat} {q : zF × zB × zF × zB} {n d : Int} {F : zF} {B : zB} {Fm : zF} {Bm : zB} (h0 : 2 ≤ K.2 0) (hK : 10 ≤ K.1) (hKm : 10 ≤ Km) (hd : 0 ≤ d ∧ d ≤ 500000) (hn : n < 20470) (h : WB q n F B Fm Bm) : zP (f_ByteRow_putDelta K 1 d F B) (f_M_delta Km d Fm Bm) (fun _ F B _ Fm Bm => ∃ c, 1 ≤ c ∧ 16384 * c ≤ 32768 + d ∧ WB q (n + c) F B Fm Bm) := by
  obtain ⟨u1, u2, u3⟩ := dl_u hd.1 (by omega : d < 2147483648)
  obtain ⟨s0, s1, s2, s3⟩ := dl_s (a := d) (by unfold r32; omega)
  obtain ⟨a, e⟩ : ∃ a, K.1 = a + 1 + 1 + 1 + 1 := ⟨K.1 - 4, (by first | decide | omega)⟩
  have eC : f_ByteRow_putDelta K 1 d F B = f_ByteRow_putDelta_2 K (a + 1 + 1 + 1) 2 1 d F B := by
    unfold f_ByteRow_putDelta
    rw [e, C_dS _ (by first | decide | omega) (by show zushr d 21 = 0; omega)]
    rfl
  have eM : ∃ b, f_M_delta Km d Fm Bm = f_M_delta_3 Km (b + 1 + 1 + 1) 14 d Fm Bm := by
    have g : f_M_delta Km d Fm Bm = f_M_delta_3 Km Km 28 d Fm Bm := rfl
    have k : ∀ i, 10 ≤ i → ∃ b, f_M_delta_3 Km i 28 d Fm Bm = f_M_delta_3 Km (b + 1 + 1 + 1) 14 d Fm Bm := fun i hi => by
      obtain ⟨b, rfl⟩ : ∃ b, i = b + 1 + 1 + 1 + 1 + 1 := ⟨i - 5, (by first | decide | omega)⟩
      refine ⟨b, ?_⟩
      rw [L_dS _ (by first | decide | omega) s0 (by first | decide | omega), show (28 : Int) - 7 = 21 from rfl, L_dS _ (by first | decide | omega) s1 (by first | decide | omega)]
      rfl
    rw [g]
    exact k Km hKm
  obtain ⟨b, eM⟩ := eM
  rw [eC, eM]
  by_cases z : d < 16384
  · rw [C_dS _ (by first | decide | omega) (by show zushr d 14 = 0; omega), L_dS _ (by first | decide | omega) s2 (by first | decide | omega), show (2 : Int) - 1 = 1 from rfl, show (14 : Int) - 7 = 7 from rfl]
    by_cases y : d < 128
    · rw [C_dS _ (by first | decide | omega) (by show zushr d 7 = 0; omega), L_dS _ (by first | decide | omega) s3 (by first | decide | omega), show (1 : Int) - 1 = 0 from rfl, show (7 : Int) - 7 = 0 from rfl, C_dE h0, L_dE]
      refine P_put h0 h (by first | decide | omega) rfl (fun F1 B1 G1 D1 w1 => P_some ⟨1, (by first | decide | omega), (by first | decide | omega), w1⟩)
    · rw [C_dP h0 _ (by first | decide | omega) (show zushr d (7 * 1) = d / 128 from u3) (by first | decide | omega), L_dP _ (by first | decide | omega) s3 (by first | decide | omega)]
      refine P_put h0 h (by first | decide | omega) (by rw [zor_c]) (fun F1 B1 G1 D1 w1 => ?_)
      rw [show (1 : Int) - 1 = 0 from rfl, show (7 : Int) - 7 = 0 from rfl, C_dE h0, L_dE]
      refine P_put h0 w1 (by first | decide | omega) rfl (fun F2 B2 G2 D2 w2 => P_some ⟨2, (by first | decide | omega), (by first | decide | omega), ?_⟩)
      rw [show n + 2 = n + 1 + 1 by omega]; exact w2
  · rw [C_dP h0 _ (by first | decide | omega) (show zushr d (7 * 2) = d / 16384 from u2) (by first | decide | omega), L_dP _ (by first | decide | omega) s2 (by first | decide | omega)]
    refine P_put h0 h (by first | decide | omega) (by rw [zor_c]) (fun F1 B1 G1 D1 w1 => ?_)
    rw [show (2 : Int) - 1 = 1 from rfl, show (14 : Int) - 7 = 7 from rfl, C_dP h0 _ (by first | decide | omega) (show zushr d (7 * 1) = d / 128 from u3) (by first | decide | omega), L_dP _ (by first | decide | omega) s3 (by first | decide | omega)]
    refine P_put h0 w1 (by first | decide | omega) (by rw [zor_c]) (fun F2 B2 G2 D2 w2 => ?_)
    rw [show (1 : Int) - 1 = 0 from rfl, show (7 : Int) - 7 = 0 from rfl, C_dE h0, L_dE]
    refine P_put h0 w2 (by first | decide | omega) rfl (fun F3 B3 G3 D3 w3 => P_some ⟨3, (by first | decide | omega), (by first | decide | omega), ?_⟩)
    rw [show n + 3 = n + 1 + 1 + 1 by omega]; exact w3
/-- what a key tells -/
theorem lsh_k {a : Int} (h0 : 0 ≤ a) (h1 : a < 9223372036854775808) (k : Nat) : (BitVec.ofInt 64 a >>> k).toInt = a / 2 ^ k := by
  obtain ⟨n, rfl⟩ := Int.eq_ofNat_of_zero_le h0
  have k1 : (BitVec.ofInt 64 (n : Int)).toNat = n := by
    rw [BitVec.toNat_ofInt]
    show ((n : Int) % 18446744073709551616).toNat = n
    omega
  have e : (BitVec.ofInt 64 (n : Int) >>> k).toNat = n / 2 ^ k := by
    rw [BitVec.toNat_ushiftRight, k1, Nat.shiftRight_eq_div_pow]
  have l : n / 2 ^ k ≤ n := Nat.div_le_self _ _
  rw [BitVec.toInt_eq_toNat_of_lt (by rw [e]; omega), e]
  rw [Int.natCast_ediv, Int.natCast_pow]
  rfl
theorem land_k {a : Int} (h0 : 0 ≤ a) (h1 : a < 9223372036854775808) (k : Nat) (hk : k < 40) : (BitVec.ofInt 64 a &&& BitVec.ofNat 64 (2 ^ k - 1)).toInt = a % 2 ^ k := by
  obtain ⟨n, rfl⟩ := Int.eq_ofNat_of_zero_le h0
  have k1 : (BitVec.ofInt 64 (n : Int)).toNat = n := by
    rw [BitVec.toNat_ofInt]
    show ((n : Int) % 18446744073709551616).toNat = n
    omega
  have p : 2 ^ k ≤ 2 ^ 40 := Nat.pow_le_pow_right (by decide) (by first | decide | omega)
  have p1 : 0 < 2 ^ k := Nat.pos_of_ne_zero (by simp)
  have e : (BitVec.ofInt 64 (n : Int) &&& BitVec.ofNat 64 (2 ^ k - 1)).toNat = n % 2 ^ k := by
    rw [BitVec.toNat_and, k1, BitVec.toNat_ofNat, Nat.mod_eq_of_lt (by first | decide | omega), Nat.and_two_pow_sub_one_eq_mod]
  have l : n % 2 ^ k < 2 ^ k := Nat.mod_lt _ p1
  rw [BitVec.toInt_eq_toNat_of_lt (by rw [e]; omega), e]
  rw [Int.natCast_emod, Int.natCast_pow]
  rfl
theorem sk_b {t on v to ev j : Int} (ht : 0 ≤ t ∧ t ≤ 500000) (ho : 0 ≤ on ∧ on ≤ 1) (hv : 0 ≤ v ∧ v < 4) (h2 : 0 ≤ to ∧ to ≤ 127) (he : 0 ≤ ev ∧ ev < 200) (hj : 0 ≤ j ∧ j < 2000) : (0 ≤ skV t on v to ev j ∧ skV t on v to ev j < 9223372036854775808) ∧ skV t on v to ev j / 536870912 = t ∧ skV t on v to ev j / 268435456 % 2 = on ∧ skV t on v to ev j / 67108864 % 4 = v ∧ skV t on v to ev j / 524288 % 128 = to ∧ skV t on v to ev j % 2048 = j := by
  unfold skV
  omega
theorem sk_z {a : Int} (h0 : 0 ≤ a) (h1 : a < 9223372036854775808) : zlushr a 29 = a / 536870912 ∧ zland (zlushr a 26) 3 = a / 67108864 % 4 ∧ zland (zlushr a 19) 127 = a / 524288 % 128 ∧ zland (zlushr a 28) 1 = a / 268435456 % 2 ∧ zland a 2047 = a % 2048 := by
  have e1 : zlushr a 26 = a / 67108864 := lsh_k h0 h1 26
  have e2 : zlushr a 19 = a / 524288 := lsh_k h0 h1 19
  have e3 : zlushr a 28 = a / 268435456 := lsh_k h0 h1 28
  rw [e1, e2, e3]
  exact ⟨lsh_k h0 h1 29, land_k (by first | decide | omega) (by first | decide | omega) 2 (by first | decide | omega), land_k (by first | decide | omega) (by first | decide | omega) 7 (by first | decide | omega), land_k (by first | decide | omega) (by first | decide | omega) 1 (by first | decide | omega), land_k h0 h1 11 (by first | decide | omega)⟩
end
end
section
section
/-! ===== strokes written ===== -/
theorem C_toldK {K : zK} {s t c on v to ev j T : Int} {F : zF} {B : zB} (hs : 0 ≤ s ∧ s < K.2 5) (hc : F 5 s 0 = c ∧ 0 ≤ c ∧ c ≤ 2000) (hr : rwS s F) (t0 : 0 ≤ t) (t1 : t < 2 * c) (hT : 0 ≤ T ∧ T ≤ 500000) (ho : 0 ≤ on ∧ on ≤ 1) (hv : 0 ≤ v ∧ v < 4) (h2 : 0 ≤ to ∧ to ≤ 127) (he : 0 ≤ ev ∧ ev < 200) (hj : 0 ≤ j ∧ j < 2000) (e : B 5 s (F 5 s 8).toNat t = skV T on v to ev j) : f_Performance_strokeTold K s t 0 F B = some (T, F, B) ∧ f_Performance_strokeTold K s t 1 F B = some (v, F, B) ∧ f_Performance_strokeTold K s t 2 F B = some (to, F, B) ∧ f_Performance_strokeTold K s t 3 F B = some (if on = 0 then 0 else B 5 s 343 j, F, B) := by
  obtain ⟨b1, b2, b3, b4, b5, b6⟩ := sk_b hT ho hv h2 he hj
  obtain ⟨z1, z2, z3, z4, z5⟩ := sk_z b1.1 b1.2
  rw [b2] at z1
  rw [b4] at z2
  rw [b5] at z3
  rw [b3] at z4
  rw [b6] at z5
  obtain ⟨l1, l2⟩ : ((lnC 5 s (F 5 s 8).toNat : Nat) : Int) = 4000 ∧ zk 5 (F 5 s 8).toNat = (3, 1) := by
    rcases hr with ⟨e8, _⟩ | ⟨e8, _⟩
    · rw [e8]; exact ⟨rfl, by decide⟩
    · rw [e8]; exact ⟨rfl, by decide⟩
  have l3 : lnC 5 s (F 5 s 8).toNat ≤ 2147483647 := by omega
  have g : ∀ k, f_Performance_strokeTold K s t k F B = if r32 k then (if k = 0 then some (T, F, B) else (if k = 1 then some (v, F, B) else (if k = 2 then some (to, F, B) else (if k = 3 then some (if on = 0 then 0 else B 5 s 343 j, F, B) else some ((-1), F, B))))) else none := fun k => by
    unfold f_Performance_strokeTold f_Performance_strokeTold_110
    rw [if_pos (by unfold r32; omega), if_neg (by first | decide | omega), if_pos hs, hc.1, if_pos (by unfold r32; omega), if_pos t1, if_pos (by first | decide | omega), if_pos l2, if_pos l3, e, z1, z2, z3, z4, z5]
    rw [if_pos (show r64 on by unfold r64; omega)]
    by_cases z : on = 0
    · rw [if_pos (zcmp_0.mpr z), if_pos z]
    · rw [if_neg (fun y => z (zcmp_0.mp y)), if_pos hj, if_neg z]
  refine ⟨?_, ?_, ?_, ?_⟩
  · rw [g 0, if_pos (by decide), if_pos rfl]
  · rw [g 1, if_pos (by decide), if_neg (by decide), if_pos rfl]
  · rw [g 2, if_pos (by decide), if_neg (by decide), if_neg (by decide), if_pos rfl]
  · rw [g 3, if_pos (by decide), if_neg (by decide), if_neg (by decide), if_neg (by decide), if_pos rfl]
/-- the strokes of a piece performed, as the reference keeps them -/
theorem PFD_s {s w c t : Int} {F : zF} {B : zB} {Fm : zF} {Bm : zB} (h : PFD s w c F B Fm Bm) (t0 : 0 ≤ t) (t1 : t < 2 * c) : ∃ on ev j, B 5 s (F 5 s 8).toNat t = skV (Bm 13 w 61 t) on (Bm 13 w 62 t) (Bm 13 w 63 t) ev j ∧ (0 ≤ Bm 13 w 61 t ∧ Bm 13 w 61 t ≤ 500000) ∧ (0 ≤ on ∧ on ≤ 1) ∧ (0 ≤ Bm 13 w 62 t ∧ Bm 13 w 62 t < 4) ∧ (0 ≤ Bm 13 w 63 t ∧ Bm 13 w 63 t ≤ 127) ∧ (0 ≤ ev ∧ ev < 200) ∧ (0 ≤ j ∧ j < 2000) ∧ (if on = 0 then 0 else B 5 s 343 j) = Bm 13 w 64 t ∧ (0 ≤ Bm 13 w 64 t ∧ Bm 13 w 64 t ≤ 127) := by
  obtain ⟨⟨_, _, c0, c1⟩, _, sb, _, _, hz, _⟩ := h
  obtain ⟨z, z0, z1, ez, x1, x2, x3, x4⟩ := hz t t0 t1
  obtain ⟨b0, b1, b2, b3, b4, b5, b6⟩ := sb (z / 2) (by first | decide | omega) (by first | decide | omega)
  rw [ez, x1, x2, x3, x4]
  unfold kz
  by_cases y : z % 2 = 0
  · rw [if_pos y, if_pos y, if_pos y]
    exact ⟨1, _, z / 2, rfl, ⟨b4, (by first | decide | omega)⟩, (by first | decide | omega), b0, b2, b1, (by first | decide | omega), by rw [if_neg (by decide)], b3⟩
  · rw [if_neg y, if_neg y, if_neg y]
    exact ⟨0, _, z / 2, rfl, ⟨(by first | decide | omega), b6⟩, (by first | decide | omega), b0, b2, b1, (by first | decide | omega), by rw [if_pos rfl], (by first | decide | omega)⟩
theorem C_told {K : zK} {q : zF × zB × zF × zB} {s w c n t : Int} {F : zF} {B : zB} {Fm : zF} {Bm : zB} (hs : 0 ≤ s ∧ s < K.2 5) (hP : PFD s w c q.1 q.2.1 q.2.2.1 q.2.2.2) (hr : rwS s q.1) (h : WB q n F B Fm Bm) (t0 : 0 ≤ t) (t1 : t < 2 * c) : f_Performance_strokeTold K s t 0 F B = some (q.2.2.2 13 w 61 t, F, B) ∧ f_Performance_strokeTold K s t 1 F B = some (q.2.2.2 13 w 62 t, F, B) ∧ f_Performance_strokeTold K s t 2 F B = some (q.2.2.2 13 w 63 t, F, B) ∧ f_Performance_strokeTold K s t 3 F B = some (q.2.2.2 13 w 64 t, F, B) := by
  obtain ⟨on, ev, j, e, hT, ho, hv, h2, he, hj, e4, _⟩ := PFD_s hP t0 t1
  obtain ⟨_, _, gF, gB, _, _⟩ := h
  have f8 : F 5 s 8 = q.1 5 s 8 := gF 5 s 8 (by first | decide | omega)
  have f9 : F 5 s 9 = q.1 5 s 9 := gF 5 s 9 (by first | decide | omega)
  have f0 : F 5 s 0 = q.1 5 s 0 := gF 5 s 0 (by first | decide | omega)
  have hr' : rwS s F := by unfold rwS at hr ⊢; rw [f8, f9]; exact hr
  have e' : B 5 s (F 5 s 8).toNat t = skV (q.2.2.2 13 w 61 t) on (q.2.2.2 13 w 62 t) (q.2.2.2 13 w 63 t) ev j := by
    rw [f8, gB 5 s _ t (by first | decide | omega)]; exact e
  obtain ⟨y1, y2, y3, y4⟩ := C_toldK hs ⟨f0.trans hP.1.2.1, hP.1.2.2.1, hP.1.2.2.2⟩ hr' t0 t1 hT ho hv h2 he hj e'
  rw [gB 5 s 343 j (by first | decide | omega), e4] at y4
  exact ⟨y1, y2, y3, y4⟩
theorem PFD_m {s w c : Int} {F : zF} {B : zB} {Fm : zF} {Bm : zB} (h : PFD s w c F B Fm Bm) : ∀ (d : Nat) (t : Int), 0 ≤ t → t + d < 2 * c → Bm 13 w 61 t ≤ Bm 13 w 61 (t + d) := by
  intro d
  induction d with
  | zero => intro t t0 t1; rw [show t + ((0 : Nat) : Int) = t by omega]; omega
  | succ d ih =>
    intro t t0 t1
    have i := ih t t0 (by first | decide | omega)
    rw [show t + ((d + 1 : Nat) : Int) = t + d + 1 by omega]
    have lt := h.2.2.2.2.1 (t + d) (by first | decide | omega) (by first | decide | omega)
    obtain ⟨on, ev, j, e, a1, a2, a3, a4, a5, a6, _⟩ := PFD_s h (t := t + d) (by first | decide | omega) (by first | decide | omega)
    obtain ⟨on', ev', j', e', a1', a2', a3', a4', a5', a6', _⟩ := PFD_s h (t := t + d + 1) (by first | decide | omega) (by first | decide | omega)
    have b := (sk_b a1 a2 a3 a4 a5 a6).2.1
    have b' := (sk_b a1' a2' a3' a4' a5' a6').2.1
    rw [e, e'] at lt
    omega
/-- how many of the first m are v; how many are below v -/
def ce (g : Int → Int) (v : Int) : Nat → Int
  | 0 => 0
  | m + 1 => ce g v m + (if g m = v then 1 else 0)
def cu (g : Int → Int) (v : Int) : Nat → Int
  | 0 => 0
  | m + 1 => cu g v m + (if g m < v then 1 else 0)
theorem cu_s (g : Int → Int) (v : Int) : ∀ m, cu g (v + 1) m = cu g v m + ce g v m
  | 0 => rfl
  | m + 1 => by
    have i := cu_s g v m
    show cu g (v + 1) m + _ = cu g v m + _ + (ce g v m + _)
    by_cases y : g m = v
    · rw [if_pos (by first | decide | omega), if_neg (by first | decide | omega), if_pos y]; omega
    · rw [if_neg y]
      by_cases z : g m < v
      · rw [if_pos (by first | decide | omega), if_pos z]; omega
      · rw [if_neg (by first | decide | omega), if_neg z]; omega
theorem cu_b (g : Int → Int) (v : Int) : ∀ m, 0 ≤ cu g v m ∧ cu g v m ≤ m
  | 0 => ⟨Int.le_refl _, Int.le_refl _⟩
  | m + 1 => by
    have i := cu_b g v m
    show 0 ≤ cu g v m + _ ∧ cu g v m + _ ≤ _
    by_cases z : g m < v
    · rw [if_pos z]; omega
    · rw [if_neg z]; omega
theorem ce_m (g : Int → Int) (v : Int) : ∀ d m, ce g v m ≤ ce g v (m + d)
  | 0, m => Int.le_refl _
  | d + 1, m => by
    have i := ce_m g v d m
    show ce g v m ≤ ce g v (m + d) + (if g ((m + d : Nat) : Int) = v then 1 else 0)
    by_cases z : g ((m + d : Nat) : Int) = v
    · rw [if_pos z]; omega
    · rw [if_neg z]; omega
end
end
section
section
/-! ===== the strokes of one voice ===== -/
/-- a voice's track, ended -/
def WE2 (q : zF × zB × zF × zB) (n0 M : Int) : Int → zF → zB → Int → zF → zB → Prop := fun _ F B _ Fm Bm => ∃ n', n0 ≤ n' ∧ 16384 * n' ≤ M ∧ WB q n' F B Fm Bm
theorem P_st {K : zK} {Km : Nat} {q : zF × zB × zF × zB} {s w c v x n0 : Int} (h0 : 2 ≤ K.2 0) (hK : 10 ≤ K.1) (hKm : 10 ≤ Km) (hs : 0 ≤ s ∧ s < K.2 5) (hw : 0 ≤ w ∧ w < 3) (hv : 0 ≤ v ∧ v < 4) (hP : PFD s w c q.1 q.2.1 q.2.2.1 q.2.2.2) (hr : rwS s q.1) (hx : 4 ≤ x ∧ x ≤ n0) (hB : 16384 * n0 + 65536 * ce (q.2.2.2 13 w 62) v (2 * c).toNat ≤ 330000000) : ∀ (d t m1 m2 : Nat) (n l4 l3 L : Int) (F : zF) (B : zB) (Fm : zF) (Bm : zB), (t : Int) + d = 2 * c → d < m1 → d < m2 → (0 ≤ l3 ∧ l3 ≤ 500000) → ((l4 = 0 ∧ l3 = 0 ∧ L = -1) ∨ (l4 = 1 ∧ L = l3)) → (∀ y : Int, t ≤ y → y < 2 * c → l3 ≤ q.2.2.2 13 w 61 y) → n0 ≤ n → 16384 * n ≤ 16384 * n0 + 65536 * ce (q.2.2.2 13 w 62) v t + l3 + 16384 * l4 → WB q n F B Fm Bm → zP (zbind (f_Performance_writeStrokes_8 K m1 t l4 l3 s v 1 F B) (fun _ F B => zbind (f_Performance_endTrack K 1 x F B) (fun _ F B => some (0, F, B)))) (f_M_voiceTrack_72 Km m2 t L x w v Fm Bm) (WE2 q n0 (16384 * n0 + 65536 * ce (q.2.2.2 13 w 62) v (2 * c).toNat + 581920)) := by
  have hc := hP.1
  have hm := hP.2.1
  intro d
  induction d with
  | zero =>
    intro t m1 m2 n l4 l3 L F B Fm Bm et l1 l2 q3 q4 qy n1 nb h
    obtain ⟨a, rfl⟩ : ∃ a, m1 = a + 1 := ⟨m1 - 1, (by first | decide | omega)⟩
    obtain ⟨b, rfl⟩ : ∃ b, m2 = b + 1 := ⟨m2 - 1, (by first | decide | omega)⟩
    have f0 : F 5 s 0 = c := by rw [h.2.2.1 5 s 0 (by first | decide | omega)]; exact hc.2.1
    have g6 : Fm 13 w 60 = 2 * c := by rw [h.2.2.2.2.1 13 w 60 (by first | decide | omega)]; exact hm.2.2
    have tt : (2 * c).toNat = t := by omega
    have l4b : 0 ≤ l4 ∧ l4 ≤ 1 := by omega
    rw [tt] at hB ⊢
    rw [f_Performance_writeStrokes_8, f_M_voiceTrack_72, f0, g6, if_pos hs, if_pos (by unfold r32; omega), if_pos (by unfold r32; omega), if_pos (by first | decide | omega), if_pos hw, if_pos (by unfold r32; omega), if_pos (by unfold r32; omega), if_pos (by first | decide | omega), zb_s]
    refine P_bind (P_end (Km := Km) (q := q) (n := n) h0 hK hKm (by first | decide | omega) (by first | decide | omega) h) (fun r F1 B1 r' G1 D1 w1 => P_some ⟨n + 4, (by first | decide | omega), (by first | decide | omega), w1⟩)
  | succ d ih =>
    intro t m1 m2 n l4 l3 L F B Fm Bm et l1 l2 q3 q4 qy n1 nb h
    obtain ⟨a, rfl⟩ : ∃ a, m1 = a + 1 := ⟨m1 - 1, (by first | decide | omega)⟩
    obtain ⟨b, rfl⟩ : ∃ b, m2 = b + 1 := ⟨m2 - 1, (by first | decide | omega)⟩
    have f0 : F 5 s 0 = c := by rw [h.2.2.1 5 s 0 (by first | decide | omega)]; exact hc.2.1
    have g6 : Fm 13 w 60 = 2 * c := by rw [h.2.2.2.2.1 13 w 60 (by first | decide | omega)]; exact hm.2.2
    have l4b : 0 ≤ l4 ∧ l4 ≤ 1 := by omega
    obtain ⟨c1, c2, c3, c4⟩ := C_told (K := K) (t := (t : Int)) hs hP hr h (by first | decide | omega) (by first | decide | omega)
    obtain ⟨on, ev, j, e, hT, _, hV, h2, _, _, _, h4⟩ := PFD_s hP (t := (t : Int)) (by first | decide | omega) (by first | decide | omega)
    have bm : ∀ k y, Bm 13 w k y = q.2.2.2 13 w k y := fun k y => h.2.2.2.2.2 13 w k y (by first | decide | omega)
    have cs : ce (q.2.2.2 13 w 62) v (t + 1) = ce (q.2.2.2 13 w 62) v t + (if q.2.2.2 13 w 62 t = v then 1 else 0) := rfl
    have cm := ce_m (q.2.2.2 13 w 62) v ((2 * c).toNat - (t + 1)) (t + 1)
    rw [show t + 1 + ((2 * c).toNat - (t + 1)) = (2 * c).toNat by omega] at cm
    have nt : ((t + 1 : Nat) : Int) = (t : Int) + 1 := by omega
    rw [f_Performance_writeStrokes_8, f_M_voiceTrack_72, f0, g6, if_pos hs, if_pos (show r32 (t : Int) by unfold r32; omega), if_pos (show r32 (2 * c) by unfold r32; omega), if_neg (show ¬ 2 * c ≤ (t : Int) by omega), c2, zb_s, if_pos (show r32 (q.2.2.2 13 w 62 t) by unfold r32; omega), if_pos (show r32 v by unfold r32; omega), if_pos hw, if_pos (show r32 (t : Int) by unfold r32; omega), if_pos (show r32 (2 * c) by unfold r32; omega), if_neg (show ¬ 2 * c ≤ (t : Int) by omega), if_pos (show 0 ≤ (t : Int) ∧ (t : Int) < 4000 by omega), bm 62 t, bm 61 t, if_pos (show r32 (q.2.2.2 13 w 62 t) by unfold r32; omega), if_pos (show r32 v by unfold r32; omega)]
    by_cases z : q.2.2.2 13 w 62 t = v
    · rw [if_pos z] at cs
      rw [if_pos z, if_pos z, c1, zb_s, if_pos (by first | decide | omega), if_pos (show r32 L by unfold r32; omega)]
      have ty := qy t (by first | decide | omega) (by first | decide | omega)
      have eL : (if 0 ≤ L then f_M_voiceTrack_114 (f_M_voiceTrack_72 Km b) Km t L x w v (q.2.2.2 13 w 61 t) L Fm Bm else f_M_voiceTrack_114 (f_M_voiceTrack_72 Km b) Km t L x w v (q.2.2.2 13 w 61 t) 0 Fm Bm) = f_M_voiceTrack_114 (f_M_voiceTrack_72 Km b) Km t L x w v (q.2.2.2 13 w 61 t) l3 Fm Bm := by
        rcases q4 with ⟨p1, p2, p3⟩ | ⟨p1, p2⟩
        · rw [p3, if_neg (by decide), p2]
        · rw [p2, if_pos q3.1]
      rw [eL]
      unfold f_M_voiceTrack_114
      simp only [zb_a2]
      refine P_bind (P_delta (Km := Km) (q := q) (n := n) (d := q.2.2.2 13 w 61 t - l3) h0 hK hKm (by first | decide | omega) (by first | decide | omega) h) (fun r F1 B1 r' G1 D1 w1 => ?_)
      obtain ⟨u, u1, u2, w1⟩ := w1
      obtain ⟨d1, d2, d3, d4⟩ := C_told (K := K) (t := (t : Int)) hs hP hr w1 (by first | decide | omega) (by first | decide | omega)
      rw [d1, zb_s, if_pos (show r32 l4 by unfold r32; omega), if_pos (show r32 L by unfold r32; omega)]
      -- what follows in both cases
      have tail : ∀ (n' : Int) (F2 : zF) (B2 : zB) (G2 : zF) (D2 : zB), n' ≤ n + u + 1 - l4 → n0 ≤ n' → WB q n' F2 B2 G2 D2 → zP (zbind (f_Performance_writeStrokes_65 (f_Performance_writeStrokes_8 K a) K (q.2.2.2 13 w 61 t) t s v 1 F2 B2) (fun _ F B => zbind (f_Performance_endTrack K 1 x F B) (fun _ F B => some (0, F, B)))) (f_M_voiceTrack_132 (f_M_voiceTrack_72 Km b) Km t x w v G2 D2) (WE2 q n0 (16384 * n0 + 65536 * ce (q.2.2.2 13 w 62) v (2 * c).toNat + 581920)) := fun n' F2 B2 G2 D2 k1 k2 w2 => by
        obtain ⟨i1, i2, i3, i4⟩ := C_told (K := K) (t := (t : Int)) hs hP hr w2 (by first | decide | omega) (by first | decide | omega)
        unfold f_Performance_writeStrokes_65 f_M_voiceTrack_132 f_Performance_writeStrokes_90 f_M_voiceTrack_163
        rw [if_pos hs, i3, zb_s, if_pos (by first | decide | omega), if_pos hw, if_pos (by first | decide | omega), w2.2.2.2.2.2 13 w 63 t (by first | decide | omega)]
        simp only [zb_a2]
        refine P_put h0 w2 (by first | decide | omega) rfl (fun F3 B3 G3 D3 w3 => ?_)
        obtain ⟨j1, j2, j3, j4⟩ := C_told (K := K) (t := (t : Int)) hs hP hr w3 (by first | decide | omega) (by first | decide | omega)
        rw [j4, zb_s, w3.2.2.2.2.2 13 w 64 t (by first | decide | omega)]
        refine P_put h0 w3 (by first | decide | omega) rfl (fun F4 B4 G4 D4 w4 => ?_)
        rw [w4.2.2.2.2.2 13 w 61 t (by first | decide | omega), ← nt]
        refine ih (t + 1) a b (n' + 1 + 1) 1 (q.2.2.2 13 w 61 t) (q.2.2.2 13 w 61 t) F4 B4 G4 D4 (by first | decide | omega) (by first | decide | omega) (by first | decide | omega) hT (Or.inr ⟨rfl, rfl⟩) (fun y y0 y1 => ?_) (by first | decide | omega) (by first | decide | omega) w4
        have := PFD_m hP (y - t).toNat t (by first | decide | omega) (by first | decide | omega)
        rw [show (t : Int) + ((y - t).toNat : Int) = y by omega] at this
        exact this
      rcases q4 with ⟨p1, p2, p3⟩ | ⟨p1, p2⟩
      · rw [if_pos p1, p3, if_neg (by decide)]
        simp only [zb_a2]
        refine P_put h0 w1 (by first | decide | omega) rfl (fun F2 B2 G2 D2 w2 => ?_)
        exact tail (n + u + 1) F2 B2 G2 D2 (by first | decide | omega) (by first | decide | omega) w2
      · rw [if_neg (by first | decide | omega), if_pos (by first | decide | omega)]
        exact tail (n + u) F1 B1 G1 D1 (by first | decide | omega) (by first | decide | omega) w1
    · rw [if_neg z] at cs
      rw [if_neg z, if_neg z]
      unfold f_Performance_writeStrokes_90 f_M_voiceTrack_163
      rw [← nt]
      exact ih (t + 1) a b n l4 l3 L F B Fm Bm (by first | decide | omega) (by first | decide | omega) (by first | decide | omega) q3 q4 (fun y y0 y1 => qy y (by first | decide | omega) y1) n1 (by first | decide | omega) h
end
end
