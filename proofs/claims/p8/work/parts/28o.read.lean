section
/-! ===== read, both sides: what comes of it ===== -/
/-- a text that was read, and its piece kept at place l1 -/
def RdK (K : zK) (V p w wl l1 : Int) (F : zF) (B : zB) (Fm : zF) (Bm : zB) (Fm' : zF) (Bm' : zB) : Prop := (∀ c i k, ¬ (c = 14 ∧ i = 0 ∧ (k ≤ 1 ∨ k = 6)) → ¬ (c = 13 ∧ i = w ∧ (k = 0 ∨ 8 ≤ k)) → ¬ (c = 13 ∧ i = wl ∧ k = 0) → Fm' c i k = Fm c i k) ∧ (Fm' 14 0 6 = wl ∧ Fm' 13 w 0 = 1 ∧ Fm' 13 wl 0 = 0 ∧ Fm' 13 w 48 = 0 ∧ Fm' 13 w 53 = 0 ∧ Fm' 13 w 54 = 0 ∧ Fm' 13 w 60 = 0 ∧ Fm' 13 w 65 = 0 ∧ Fm' 13 w 66 = 0) ∧ (∀ c i k x, ¬ (c = 13 ∧ i = w ∧ (k = 20 ∨ 36 ≤ k)) → ¬ (c = 14 ∧ i = 0 ∧ k = 58) → ¬ (c = 14 ∧ i = 0 ∧ k = 5 ∧ x = l1) → Bm' c i k x = Bm c i k x) ∧ Bm' 14 0 5 l1 = w ∧ (XS Bm' ∧ XC Bm' ∧ X77 Bm') ∧ PK K V p w F B Fm' Bm' ∧ MK V w Fm' Bm'
theorem P_rdOK {K : zK} {Km : Nat} {N L V p w wl l1 : Int} {F3 F1 F5 : zF} {B3 B1 : zB} {Fm3 Fm1 Fm5 : zF} {Bm3 Bm1 : zB} (hI : VI K Km N L V N p w F3 B3 Fm3 Bm3) (V1 : 1 ≤ V) (v : VTF p w F3 B3 (zup3 Fm3 14 0 35 0) Bm3 F1 B1 Fm1 Bm1) (h1 : ∀ c y k, ¬ (c = 0 ∧ y = 0 ∧ (k = 1 ∨ k = 2)) → ¬ (c = 6 ∧ y = p ∧ k = 7) → F5 c y k = F1 c y k) (h2 : ∀ c y j, ¬ (c = 14 ∧ y = 0 ∧ (j ≤ 1 ∨ j = 17 ∨ j = 18)) → Fm5 c y j = Fm1 c y j) (h17 : Fm5 14 0 17 = 0) (h7 : F5 6 p 7 = Fm5 13 w 7 ∧ 0 ≤ F5 6 p 7 ∧ F5 6 p 7 ≤ 100 ∧ ∀ u, 0 ≤ u → u < V → Fm5 13 w 7 = clB (F1 4 (B1 6 p 0 u) 7) (barV (F3 6 p 4) (F3 6 p 5))) (hS : VLS K Km N L V p w (F3 6 p 4) (F3 6 p 5) V B3 (byB N Bm3) F1 B1 Fm1 Bm1) (x : XS Bm1 ∧ XC Bm1 ∧ X77 Bm1) (l0 : 0 ≤ l1 ∧ l1 < 2) (h5 : Bm1 14 0 5 l1 = wl) (wb : 0 ≤ wl ∧ wl < 3) (hw : ¬ wl = w) : ∃ Fm' Bm', f_M_read_35 Km l1 Fm5 Bm1 = some (0, Fm', Bm') ∧ RdK K V p w wl l1 F5 B1 Fm5 Bm1 Fm' Bm' := by
  obtain ⟨⟨hE, hPS, hHP, _⟩, hGS, iV1, iV2, iV3, hVv⟩ := hI
  obtain ⟨p0, w0, e6, k2, k3, k4, k5, k6, _⟩ := hHP
  obtain ⟨v1, v2, v3, v4, v5, v6⟩ := v
  obtain ⟨⟨hK, hKm, _⟩, _, _, hU, hD, _⟩ := hS
  have f6 : ∀ k, ¬ k = 7 → F5 6 p k = F3 6 p k := fun k hk => by rw [h1 6 p k (by first | decide | omega) (by first | decide | omega), v1 6 p k (by first | decide | omega) (by first | decide | omega) (by first | decide | omega)]
  have m13 : ∀ k, ¬ k = 7 → Fm5 13 w k = Fm3 13 w k := fun k hk => by rw [h2 13 w k (by first | decide | omega), v4 13 w k (by first | decide | omega) (by first | decide | omega), zup3_v, if_neg (by first | decide | omega)]
  have g6 : Fm5 14 0 6 = w := by rw [h2 14 0 6 (by first | decide | omega), v4 14 0 6 (by first | decide | omega) (by first | decide | omega), zup3_v, if_neg (by first | decide | omega)]; exact e6
  have gV : Fm5 13 w 1 = V := by rw [m13 1 (by first | decide | omega)]; exact iV2
  have b6 : ∀ u, B1 6 p 0 u = B3 6 p 0 u := fun u => v2 6 p 0 u (by first | decide | omega) (by first | decide | omega) (by first | decide | omega)
  obtain ⟨Bx, n', n0, y1, y2, y3⟩ := L_r57 (K := Km) (l1 := l1) (F := Fm5) (by first | decide | omega) w0 g6 gV iV3.2 V.toNat Km (u := 0) (B := Bm1) (by first | decide | omega) (by first | decide | omega) (by first | decide | omega) (fun t t0 t1 => by
    obtain ⟨m, g, d, _⟩ := hD t t0 t1
    refine ⟨m, d.2.1, d.1.2.2, fun i hi => ?_⟩
    have := (d.2.2.2.2.2.1 i hi).1.2.2.2.2.2.2.2.2.2.2.1
    exact ⟨this.2.1, this.2.2.1⟩)
  obtain ⟨n', rfl⟩ : ∃ j, n' = j + 1 := ⟨n' - 1, (by first | decide | omega)⟩
  have yx : ∀ k x, ¬ k = 20 → Bx 13 w k x = Bm1 13 w k x := fun k x hk => y3 13 w k x (by first | decide | omega)
  have PK0 : PK K V p w F5 B1 Fm5 Bx := by
    refine ⟨⟨p0, w0, ⟨V1, iV3.2⟩, by rw [f6 1 (by decide)]; exact iV1, gV⟩, ⟨by rw [f6 2 (by decide), m13 2 (by decide)]; exact k2, by rw [f6 3 (by decide), m13 3 (by decide)]; exact k3, by rw [f6 4 (by decide), m13 4 (by decide)]; exact k4, by rw [f6 5 (by decide), m13 5 (by decide)]; exact k5, by rw [f6 6 (by decide), m13 6 (by decide)]; exact k6, ⟨h7.1, h7.2.1, h7.2.2.1⟩⟩, fun u u0 u1 => ?_⟩
    obtain ⟨vr, _⟩ := hVv u u0 u1
    obtain ⟨r1, r2, r3, r4, r5, _, _, _, _, _, r11, r12⟩ := vr
    have q4 : ∀ k, k < 6 → F5 4 (B3 6 p 0 u) k = F3 4 (B3 6 p 0 u) k := fun k hk => by rw [h1 4 _ k (by first | decide | omega) (by first | decide | omega), v1 4 _ k (by first | decide | omega) (by first | decide | omega) (by first | decide | omega)]
    have q13 : ∀ k x, k < 12 → Bx 13 w k x = Bm3 13 w k x := fun k x hk => by rw [yx k x (by first | decide | omega), v5 13 w k x (by first | decide | omega) (by first | decide | omega)]
    obtain ⟨m, g, d, _⟩ := hD u u0 u1
    refine ⟨?_, m, g, ?_, ?_⟩
    · unfold VH
      rw [b6, q4 0 (by decide), q4 1 (by decide), q4 2 (by decide), q13 10 _ (by decide), q13 8 _ (by decide), q13 9 _ (by decide), q13 11 _ (by decide)]
      exact ⟨r1, r2, r4, r5, r3, r11, r12⟩
    · rw [f6 4 (by decide), f6 5 (by decide)]
      exact VK_d d (fun c y k a b => h1 c y k (by first | decide | omega) (by first | decide | omega)) (fun i hi => y2 u m i u0 u1 d.2.1 hi) (fun k x a _ => yx k x a)
    · rw [f6 4 (by decide), f6 5 (by decide), h1 4 _ 7 (by first | decide | omega) (by first | decide | omega)]
      exact h7.2.2.2 u u0 u1
  have hX : XS Bx := XS_f x.1 (fun i k z a b => y3 13 i k z (by first | decide | omega)) (fun z => y3 14 0 58 z (by first | decide | omega))
  have hC : XC Bx := XC_f x.2.1 (fun i k z hk => y3 13 i k z (by first | decide | omega))
  have h77 : X77 Bx := X77_f x.2.2 (fun i k z a b => y3 13 i k z (by first | decide | omega))
  obtain ⟨F', B', z1, z2, z3, z4, z5, z6, z7, z8, z9⟩ := L_tail (K := Km) (n := n') (l1 := l1) (w1 := wl) (F := Fm5) (B := Bx) (by first | decide | omega) g6 (PK_r PK0) hX hC h77 l0 (by rw [y3 14 0 5 l1 (by first | decide | omega)]; exact h5) wb hw
  refine ⟨F', B', ?_, z2, z3, fun c i k y a b d => ?_, z5, ⟨z6, z7, z8⟩, ?_, z9⟩
  · unfold f_M_read_35
    rw [L_good h17, zb_s, if_pos (by decide), if_neg (by decide), y1, z1]
  · rw [z4 c i k y (by first | decide | omega) b d, y3 c i k y (by first | decide | omega)]
  · exact PK_e PK0 (fun _ => Int.le_refl _) (fun _ _ => rfl) rfl (fun _ _ _ => rfl) (fun _ _ _ => rfl) (fun _ _ _ _ _ _ => rfl) (fun _ _ _ _ _ _ => rfl) (fun k a b => z2 13 w k (by first | decide | omega) (by first | decide | omega) (by first | decide | omega)) (fun k y hk => z4 13 w k y (by first | decide | omega) (by first | decide | omega) (by first | decide | omega))
/-- what a call of read comes to, both sides -/
theorem P_rd29 {K : zK} {Km : Nat} {p p0 p1 w w0 w1 l1 : Int} {F : zF} {B : zB} {Fm : zF} {Bm : zB} (h : IR K Km p p0 p1 w w0 w1 F B Fm Bm) (hT : IT F B Fm Bm) (hp : 0 ≤ p) (l0 : 0 ≤ l1 ∧ l1 < 2) : ∃ r K' F3 B3 Fm3 Bm3, PhF K K' p w F B Fm Bm F3 B3 Fm3 Bm3 ∧ (F3 0 0 1 = 0 ∧ Fm3 14 0 3 = 0) ∧ (F3 6 p 10 = 0 ∧ F3 6 p 11 = 0 ∧ F3 6 p 13 = 0 ∧ (0 ≤ F 6 p 8 → F3 2 (F 6 p 8) 0 = 0)) ∧ ((¬ r = 0 ∧ f_S_read_29 K 0 l1 F B = some (r, F3, B3, K') ∧ f_M_read Km l1 Fm Bm = some (r, Fm3, Bm3)) ∨ (r = 0 ∧ f_S_read_29 K 0 l1 F B = some (0, zup3 F3 12 0 7 (B3 12 0 3 l1), zup4 B3 12 0 3 l1 p, K') ∧ ∃ V Fm' Bm', f_M_read Km l1 Fm Bm = some (0, Fm', Bm') ∧ RdK K' V p w (Bm 14 0 5 l1) l1 F3 B3 Fm3 Bm3 Fm' Bm')) := by
  have h' := h
  obtain ⟨⟨a1, a2, a3⟩, ⟨o0, o2, o4, o5, o6, o11⟩, ⟨d1, d2, d3, d4, d5, d6, d7⟩, ⟨n1, n2, n3, n4, n5, n6⟩, hW, hQ, hG, hF, s0, s1⟩ := h
  obtain ⟨t1, t2, t3, t4, t5⟩ := hT
  have hpK : 0 ≤ p ∧ p < K.2 6 := ⟨hp, hQ.1.1⟩
  obtain ⟨F2, c1, c2, ⟨q1, q2, q3, q4, q5, q6, q10, q11, q13⟩, c4⟩ := C_pclr (B := B) hpK (hF p hp hpK.2).1
  have f12 : ∀ k, F2 12 0 k = F 12 0 k := fun k => c2 12 0 k (by first | decide | omega) (by first | decide | omega)
  have key := P_parse (K := K) (Km := Km) (n := F 0 0 1) (p := p) (w := w) (t := B 0 0 0) (F := F2) (B := B) (Fm := Fm) (Bm := Bm) a1 (by first | decide | omega) (by first | decide | omega) a3.2.2.1 (by first | decide | omega) (by rw [c2 3 0 11 (by first | decide | omega) (by first | decide | omega)]; exact o11) (c2 0 0 1 (by first | decide | omega) (by first | decide | omega)) t2 t3 t4 rfl d2 t1.symm t5 d4 d1 hpK hW.1 n4 q1 q2 q3 q4 q5 q6
  obtain ⟨r, F3, B3, K3, r', Fm3, Bm3, e1, e2, hPF, hGS, res⟩ := key
  have hph := PhF_1 (F4 := F3) c2 hPF hGS d3 (fun _ _ _ _ => rfl)
  have kk := hph.1.2.2.1
  have f3 : ∀ k, F3 12 0 k = F 12 0 k := fun k => by rw [hPF.2.1 12 0 k (by first | decide | omega) (by first | decide | omega) (by first | decide | omega) (by first | decide | omega) (by first | decide | omega), f12]
  have f36 : ∀ k, ¬ (1 ≤ k ∧ k ≤ 6) → F3 6 p k = F2 6 p k := fun k hk => hPF.2.1 6 p k hpK.2 (by first | decide | omega) (by first | decide | omega) (by first | decide | omega) (by first | decide | omega)
  have f32 : ∀ y k, y < K.2 2 → F3 2 y k = F2 2 y k := fun y k hy => hPF.2.1 2 y k hy (by first | decide | omega) (by first | decide | omega) (by first | decide | omega) (by first | decide | omega)
  have h8 := (hF p hp hpK.2).1
  -- the class up to its loop over voices
  have cE : f_S_read_29 K 0 l1 F B = f_S_read_54 K3.1 K3 0 r 0 l1 F3 B3 := by
    unfold f_S_read_29
    rw [if_pos ⟨Int.le_refl _, a3.2.2.2.2.2.2.2.2.2⟩, n1, if_pos hpK, c1, zbN_s, f12, o4, if_pos ⟨Int.le_refl _, a3.2.2.1⟩, f12, o0, if_pos (show 0 ≤ (0 : Int) ∧ 0 < K.2 0 by omega), f12, n1, if_pos hpK, e1]
    rfl
  -- the reference up to the judgement of its text
  have mE : f_M_read Km l1 Fm Bm = zbind (f_M_good Km Fm3 Bm3) (fun r7 F7 B7 => if r32 r7 then (if r7 = 0 then f_M_read_35 Km l1 F7 B7 else zbind (f_M_through Km F7 B7) (fun r10 F10 B10 => f_M_read_35 Km l1 F10 B10)) else none) := by
    unfold f_M_read
    rw [if_pos (by unfold r32; omega), if_neg (by first | decide | omega), if_pos (by first | decide | omega)]
    rw [zb_as (t := fun F B => f_M_text Km (zup3 F 14 0 3 0) B), e2, zb_s]
  have m3 : Fm3 14 0 3 = 0 ∨ True := Or.inr trivial
  have k12 : 0 < K3.2 12 := by rw [kk 12 (by decide)]; omega
  have k0 : 0 < K3.2 0 := by rw [kk 0 (by decide)]; omega
  have k11 : 0 < K3.2 11 := by rw [kk 11 (by decide)]; omega
  have k6 : p < K3.2 6 := by rw [kk 6 (by decide)]; exact hpK.2
  have kf : K3.1 = K.1 := hph.1.1
  rcases res with ⟨rfl, N, L, V, V1, hI⟩ | ⟨⟨er, b0, b1⟩, bd⟩
  · -- the text parses
    have h17 : Fm3 14 0 17 = 0 := hI.1.2.1.2.2.2.1
    obtain ⟨fl, F1, F5, B1, Fm1, Fm5, Bm1, x1, x2, x3, x4, x5, x6, x7, x8, x9, x10⟩ := P_thr (l1 := l1) hI V1 (by first | decide | omega) k0 k11 k12 (by rw [f3]; exact o0) (by rw [f3]; exact n1) (by rw [f3]; exact o5) (by rw [f3]; exact o4) h17 (fun u u0 u1 s s0 s1 => hph.2.2.2.2.2.2.2.2 _ s (hI.2.2.2.2.2 u u0 u1).1.1.1 (hI.2.2.2.2.2 u u0 u1).1.1.2 s0 s1)
    have hph2 := PhF_2 hpK hph x3 x8 x4 x6 (by first | decide | omega)
    have g6 : ∀ k, ¬ k = 7 → F5 6 p k = F3 6 p k := fun k hk => by rw [x4 6 p k (by first | decide | omega) (by first | decide | omega), x3.1 6 p k (by first | decide | omega) (by first | decide | omega) (by first | decide | omega)]
    have g2 : ∀ y k, F5 2 y k = F3 2 y k := fun y k => by rw [x4 2 y k (by first | decide | omega) (by first | decide | omega), x3.1 2 y k (by first | decide | omega) (by first | decide | omega) (by first | decide | omega)]
    have fl4 : F5 6 p 10 = 0 ∧ F5 6 p 11 = 0 ∧ F5 6 p 13 = 0 ∧ (0 ≤ F 6 p 8 → F5 2 (F 6 p 8) 0 = 0) := by
      rw [g6 10 (by decide), g6 11 (by decide), g6 13 (by decide), f36 10 (by decide), f36 11 (by decide), f36 13 (by decide)]
      exact ⟨q10, q11, q13, fun z => by rw [g2, f32 _ _ h8]; exact c4 z⟩
    have e17 : ∀ (x : zO), zbind (f_M_good Km Fm3 Bm3) (fun r7 F7 B7 => if r32 r7 then (if r7 = 0 then f_M_read_35 Km l1 F7 B7 else zbind (f_M_through Km F7 B7) (fun r10 F10 B10 => f_M_read_35 Km l1 F10 B10)) else none) = f_M_read_35 Km l1 Fm5 Bm1 := fun _ => by
      rw [L_good h17, zb_s, if_pos (by decide), if_neg (by decide), x2, zb_s]
    have fN := hph2.2.2.2.2.2.1
    have m3' : Fm5 14 0 3 = 0 := by
      rw [x6 14 0 3 (by first | decide | omega), x3.2.2.2.1 14 0 3 (by first | decide | omega) (by first | decide | omega), zup3_v, if_neg (by first | decide | omega)]
      exact hPF.2.2.2.2.2.2.2.2.2.1
    have f57 : F5 12 0 7 = p := by rw [x4 12 0 7 (by first | decide | omega) (by first | decide | omega), x3.1 12 0 7 (by first | decide | omega) (by first | decide | omega) (by first | decide | omega), f3]; exact n1
    have b12 : B1 12 0 3 l1 = B 12 0 3 l1 := by rw [x3.2.1 12 0 3 l1 (by first | decide | omega) (by first | decide | omega) (by first | decide | omega)]; exact hPF.2.2.1 12 0 3 l1 (by first | decide | omega) (by first | decide | omega) (by first | decide | omega) (by first | decide | omega)
    have pl : B 12 0 3 l1 < K.2 6 := by
      have : l1 = 0 ∨ l1 = 1 := by omega
      rcases this with rfl | rfl
      · rw [n2]; exact hQ.1.2.1
      · rw [n3]; exact hQ.1.2.2
    have wl : (0 ≤ Bm 14 0 5 l1 ∧ Bm 14 0 5 l1 < 3) ∧ ¬ Bm 14 0 5 l1 = w := by
      have : l1 = 0 ∨ l1 = 1 := by omega
      unfold IW at hW
      rcases this with rfl | rfl
      · rw [n5]; omega
      · rw [n6]; omega
    rcases x10 with ⟨rfl, z17, z7, zS⟩ | ⟨bd, e, b0, b1⟩
    · have w13 : ∀ i k x, 36 ≤ k → Bm1 13 i k x = Bm 13 i k x := fun i k x hk => fN 13 i k x (by first | decide | omega) (by first | decide | omega)
      obtain ⟨Fm', Bm', y1, y2⟩ := P_rdOK hI V1 x3 x4 x6 z17 z7 zS ⟨XS_f d5 (fun i k x a b => w13 i k x a) (fun x => fN 14 0 58 x (by first | decide | omega) (by first | decide | omega)), XC_f d6 (fun i k x hk => w13 i k x (by first | decide | omega)), X77_f d7 (fun i k x a b => w13 i k x (by first | decide | omega))⟩ l0 (fN 14 0 5 l1 (by first | decide | omega) (by first | decide | omega)) wl.1 wl.2
      refine ⟨0, K3, F5, B1, Fm5, Bm1, hph2, ⟨x5.1, m3'⟩, fl4, Or.inr ⟨rfl, ?_, V, Fm', Bm', by rw [mE, e17 none, y1], y2⟩⟩
      rw [cE, x1]
      unfold f_S_read_140
      rw [if_pos (by decide), if_pos rfl, if_pos ⟨Int.le_refl _, k12⟩, if_pos l0, f57, if_pos ⟨hp, k6⟩, b12, if_pos (by rw [kk 6 (by decide)]; exact pl)]
    · have fz : ¬ fl = 0 := by unfold bad at bd; omega
      refine ⟨fl, K3, F5, B1, Fm5, Bm1, hph2, ⟨x5.1, m3'⟩, fl4, Or.inl ⟨fz, ?_, ?_⟩⟩
      · rw [cE, x1]
        unfold f_S_read_140
        rw [if_pos x9, if_neg fz]
      · rw [mE, e17 none]
        unfold f_M_read_35
        rw [L_goodB bd, zb_s, if_pos (by decide), if_pos rfl, ← e]
  · -- the text does not parse
    have rz : ¬ r = 0 := by unfold bad at bd; omega
    have rr : r32 r := by unfold bad at bd; unfold r32; omega
    have v1 := hPF.2.2.2.2.2.2.2.2.2.2
    have hph2 := PhF_1 (F4 := zup3 (zup3 F3 0 0 1 0) 0 0 2 0) c2 hPF hGS d3 (fun c y k hh => by rw [zup3_v, if_neg (by first | decide | omega), zup3_v, if_neg (by first | decide | omega)])
    have z6 : ∀ c y k, ¬ (c = 0 ∧ y = 0) → (zup3 (zup3 F3 0 0 1 0) 0 0 2 0) c y k = F3 c y k := fun c y k hh => by rw [zup3_v, if_neg (by first | decide | omega), zup3_v, if_neg (by first | decide | omega)]
    refine ⟨r, K3, _, B3, Fm3, Bm3, hph2, ⟨by rw [zup3_v, if_neg (by first | decide | omega), zup3_v, if_pos (by first | decide | omega)], hPF.2.2.2.2.2.2.2.2.2.1⟩, ⟨by rw [z6 6 p 10 (by first | decide | omega), f36 10 (by decide)]; exact q10, by rw [z6 6 p 11 (by first | decide | omega), f36 11 (by decide)]; exact q11, by rw [z6 6 p 13 (by first | decide | omega), f36 13 (by decide)]; exact q13, fun z => by rw [z6 2 _ 0 (by first | decide | omega), f32 _ _ h8]; exact c4 z⟩, Or.inl ⟨rz, ?_, ?_⟩⟩
    · rw [cE]
      exact C_rdX (by first | decide | omega) k0 k12 ⟨hp, k6⟩ (by rw [f3]; exact n1) (by rw [f3]; exact o0) (by unfold r32; omega) rr rz
    · rw [mE, L_goodB bd, zb_s, if_pos (by decide), if_pos rfl]
      unfold f_M_read_35
      rw [L_goodB bd, zb_s, if_pos (by decide), if_pos rfl, ← er]
end
