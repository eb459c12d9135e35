section
section
/-! ===== strokes written ===== -/
theorem C_toldK {K : zK} {s t c on v to ev j T : Int} {F : zF} {B : zB} (hs : 0 ≤ s ∧ s < K.2 5) (hc : F 5 s 0 = c ∧ 0 ≤ c ∧ c ≤ 2000) (hr : rwS s F) (t0 : 0 ≤ t) (t1 : t < 2 * c) (hT : 0 ≤ T ∧ T ≤ 500000) (ho : 0 ≤ on ∧ on ≤ 1) (hv : 0 ≤ v ∧ v < 4) (h2 : 0 ≤ to ∧ to ≤ 127) (he : 0 ≤ ev ∧ ev < 200) (hj : 0 ≤ j ∧ j < 2000) (e : B 5 s (F 5 s 8).toNat t = skV T on v to ev j) : f_Performance_strokeTold K s t 0 F B = some (T, F, B) ∧ f_Performance_strokeTold K s t 1 F B = some (v, F, B) ∧ f_Performance_strokeTold K s t 2 F B = some (to, F, B) ∧ f_Performance_strokeTold K s t 3 F B = some (if on = 0 then 0 else B 5 s 343 j, F, B) := by
  obtain ⟨b1, b2, b3, b4, b5, b6⟩ := sk_b hT ho hv h2 he hj
  obtain ⟨z1, z2, z3, z4, z5⟩ := sk_z b1.1 b1.2
  rw [b2] at z1
  rw [b4] at z2
  rw [b5] at z3
  rw [b3] at z4
  rw [b6] at z5
  obtain ⟨l1, l2⟩ : ((lnC 5 s (F 5 s 8).toNat : Nat) : Int) = 4000 ∧ zk 5 (F 5 s 8).toNat = (3, 1) := by
    rcases hr with ⟨e8, _⟩ | ⟨e8, _⟩
    · rw [e8]; exact ⟨rfl, by decide⟩
    · rw [e8]; exact ⟨rfl, by decide⟩
  have l3 : lnC 5 s (F 5 s 8).toNat ≤ 2147483647 := by omega
  have g : ∀ k, f_Performance_strokeTold K s t k F B = if r32 k then (if k = 0 then some (T, F, B) else (if k = 1 then some (v, F, B) else (if k = 2 then some (to, F, B) else (if k = 3 then some (if on = 0 then 0 else B 5 s 343 j, F, B) else some ((-1), F, B))))) else none := fun k => by
    unfold f_Performance_strokeTold f_Performance_strokeTold_110
    rw [if_pos (by unfold r32; omega), if_neg (by first | decide | omega), if_pos hs, hc.1, if_pos (by unfold r32; omega), if_pos t1, if_pos (by first | decide | omega), if_pos l2, if_pos l3, e, z1, z2, z3, z4, z5]
    rw [if_pos (show r64 on by unfold r64; omega)]
    by_cases z : on = 0
    · rw [if_pos (zcmp_0.mpr z), if_pos z]
    · rw [if_neg (fun y => z (zcmp_0.mp y)), if_pos hj, if_neg z]
  refine ⟨?_, ?_, ?_, ?_⟩
  · rw [g 0, if_pos (by decide), if_pos rfl]
  · rw [g 1, if_pos (by decide), if_neg (by decide), if_pos rfl]
  · rw [g 2, if_pos (by decide), if_neg (by decide), if_neg (by decide), if_pos rfl]
  · rw [g 3, if_pos (by decide), if_neg (by decide), if_neg (by decide), if_neg (by decide), if_pos rfl]
/-- the strokes of a piece performed, as the reference keeps them -/
theorem PFD_s {s w c t : Int} {F : zF} {B : zB} {Fm : zF} {Bm : zB} (h : PFD s w c F B Fm Bm) (t0 : 0 ≤ t) (t1 : t < 2 * c) : ∃ on ev j, B 5 s (F 5 s 8).toNat t = skV (Bm 13 w 61 t) on (Bm 13 w 62 t) (Bm 13 w 63 t) ev j ∧ (0 ≤ Bm 13 w 61 t ∧ Bm 13 w 61 t ≤ 500000) ∧ (0 ≤ on ∧ on ≤ 1) ∧ (0 ≤ Bm 13 w 62 t ∧ Bm 13 w 62 t < 4) ∧ (0 ≤ Bm 13 w 63 t ∧ Bm 13 w 63 t ≤ 127) ∧ (0 ≤ ev ∧ ev < 200) ∧ (0 ≤ j ∧ j < 2000) ∧ (if on = 0 then 0 else B 5 s 343 j) = Bm 13 w 64 t ∧ (0 ≤ Bm 13 w 64 t ∧ Bm 13 w 64 t ≤ 127) := by
  obtain ⟨⟨_, _, c0, c1⟩, _, sb, _, _, hz, _⟩ := h
  obtain ⟨z, z0, z1, ez, x1, x2, x3, x4⟩ := hz t t0 t1
  obtain ⟨b0, b1, b2, b3, b4, b5, b6⟩ := sb (z / 2) (by first | decide | omega) (by first | decide | omega)
  rw [ez, x1, x2, x3, x4]
  unfold kz
  by_cases y : z % 2 = 0
  · rw [if_pos y, if_pos y, if_pos y]
    exact ⟨1, _, z / 2, rfl, ⟨b4, (by first | decide | omega)⟩, (by first | decide | omega), b0, b2, b1, (by first | decide | omega), by rw [if_neg (by decide)], b3⟩
  · rw [if_neg y, if_neg y, if_neg y]
    exact ⟨0, _, z / 2, rfl, ⟨(by first | decide | omega), b6⟩, (by first | decide | omega), b0, b2, b1, (by first | decide | omega), by rw [if_pos rfl], (by first | decide | omega)⟩
theorem C_told {K : zK} {q : zF × zB × zF × zB} {s w c n t : Int} {F : zF} {B : zB} {Fm : zF} {Bm : zB} (hs : 0 ≤ s ∧ s < K.2 5) (hP : PFD s w c q.1 q.2.1 q.2.2.1 q.2.2.2) (hr : rwS s q.1) (h : WB q n F B Fm Bm) (t0 : 0 ≤ t) (t1 : t < 2 * c) : f_Performance_strokeTold K s t 0 F B = some (q.2.2.2 13 w 61 t, F, B) ∧ f_Performance_strokeTold K s t 1 F B = some (q.2.2.2 13 w 62 t, F, B) ∧ f_Performance_strokeTold K s t 2 F B = some (q.2.2.2 13 w 63 t, F, B) ∧ f_Performance_strokeTold K s t 3 F B = some (q.2.2.2 13 w 64 t, F, B) := by
  obtain ⟨on, ev, j, e, hT, ho, hv, h2, he, hj, e4, _⟩ := PFD_s hP t0 t1
  obtain ⟨_, _, gF, gB, _, _⟩ := h
  have f8 : F 5 s 8 = q.1 5 s 8 := gF 5 s 8 (by first | decide | omega)
  have f9 : F 5 s 9 = q.1 5 s 9 := gF 5 s 9 (by first | decide | omega)
  have f0 : F 5 s 0 = q.1 5 s 0 := gF 5 s 0 (by first | decide | omega)
  have hr' : rwS s F := by unfold rwS at hr ⊢; rw [f8, f9]; exact hr
  have e' : B 5 s (F 5 s 8).toNat t = skV (q.2.2.2 13 w 61 t) on (q.2.2.2 13 w 62 t) (q.2.2.2 13 w 63 t) ev j := by
    rw [f8, gB 5 s _ t (by first | decide | omega)]; exact e
  obtain ⟨y1, y2, y3, y4⟩ := C_toldK hs ⟨f0.trans hP.1.2.1, hP.1.2.2.1, hP.1.2.2.2⟩ hr' t0 t1 hT ho hv h2 he hj e'
  rw [gB 5 s 343 j (by first | decide | omega), e4] at y4
  exact ⟨y1, y2, y3, y4⟩
theorem PFD_m {s w c : Int} {F : zF} {B : zB} {Fm : zF} {Bm : zB} (h : PFD s w c F B Fm Bm) : ∀ (d : Nat) (t : Int), 0 ≤ t → t + d < 2 * c → Bm 13 w 61 t ≤ Bm 13 w 61 (t + d) := by
  intro d
  induction d with
  | zero => intro t t0 t1; rw [show t + ((0 : Nat) : Int) = t by omega]; omega
  | succ d ih =>
    intro t t0 t1
    have i := ih t t0 (by first | decide | omega)
    rw [show t + ((d + 1 : Nat) : Int) = t + d + 1 by omega]
    have lt := h.2.2.2.2.1 (t + d) (by first | decide | omega) (by first | decide | omega)
    obtain ⟨on, ev, j, e, a1, a2, a3, a4, a5, a6, _⟩ := PFD_s h (t := t + d) (by first | decide | omega) (by first | decide | omega)
    obtain ⟨on', ev', j', e', a1', a2', a3', a4', a5', a6', _⟩ := PFD_s h (t := t + d + 1) (by first | decide | omega) (by first | decide | omega)
    have b := (sk_b a1 a2 a3 a4 a5 a6).2.1
    have b' := (sk_b a1' a2' a3' a4' a5' a6').2.1
    rw [e, e'] at lt
    omega
/-- how many of the first m are v; how many are below v -/
def ce (g : Int → Int) (v : Int) : Nat → Int
  | 0 => 0
  | m + 1 => ce g v m + (if g m = v then 1 else 0)
def cu (g : Int → Int) (v : Int) : Nat → Int
  | 0 => 0
  | m + 1 => cu g v m + (if g m < v then 1 else 0)
theorem cu_s (g : Int → Int) (v : Int) : ∀ m, cu g (v + 1) m = cu g v m + ce g v m
  | 0 => rfl
  | m + 1 => by
    have i := cu_s g v m
    show cu g (v + 1) m + _ = cu g v m + _ + (ce g v m + _)
    by_cases y : g m = v
    · rw [if_pos (by first | decide | omega), if_neg (by first | decide | omega), if_pos y]; omega
    · rw [if_neg y]
      by_cases z : g m < v
      · rw [if_pos (by first | decide | omega), if_pos z]; omega
      · rw [if_neg (by first | decide | omega), if_neg z]; omega
theorem cu_b (g : Int → Int) (v : Int) : ∀ m, 0 ≤ cu g v m ∧ cu g v m ≤ m
  | 0 => ⟨Int.le_refl _, Int.le_refl _⟩
  | m + 1 => by
    have i := cu_b g v m
    show 0 ≤ cu g v m + _ ∧ cu g v m + _ ≤ _
    by_cases z : g m < v
    · rw [if_pos z]; omega
    · rw [if_neg z]; omega
theorem ce_m (g : Int → Int) (v : Int) : ∀ d m, ce g v m ≤ ce g v (m + d)
  | 0, m => Int.le_refl _
  | d + 1, m => by
    have i := ce_m g v d m
    show ce g v m ≤ ce g v (m + d) + (if g ((m + d : Nat) : Int) = v then 1 else 0)
    by_cases z : g ((m + d : Nat) : Int) = v
    · rw [if_pos z]; omega
    · rw [if_neg z]; omega
end
end
section
section
/-! ===== the strokes of one voice ===== -/
/-- a voice's track, ended -/
def WE2 (q : zF × zB × zF × zB) (n0 M : Int) : Int → zF → zB → Int → zF → zB → Prop := fun _ F B _ Fm Bm => ∃ n', n0 ≤ n' ∧ 16384 * n' ≤ M ∧ WB q n' F B Fm Bm
theorem P_st {K : zK} {Km : Nat} {q : zF × zB × zF × zB} {s w c v x n0 : Int} (h0 : 2 ≤ K.2 0) (hK : 10 ≤ K.1) (hKm : 10 ≤ Km) (hs : 0 ≤ s ∧ s < K.2 5) (hw : 0 ≤ w ∧ w < 3) (hv : 0 ≤ v ∧ v < 4) (hP : PFD s w c q.1 q.2.1 q.2.2.1 q.2.2.2) (hr : rwS s q.1) (hx : 4 ≤ x ∧ x ≤ n0) (hB : 16384 * n0 + 65536 * ce (q.2.2.2 13 w 62) v (2 * c).toNat ≤ 330000000) : ∀ (d t m1 m2 : Nat) (n l4 l3 L : Int) (F : zF) (B : zB) (Fm : zF) (Bm : zB), (t : Int) + d = 2 * c → d < m1 → d < m2 → (0 ≤ l3 ∧ l3 ≤ 500000) → ((l4 = 0 ∧ l3 = 0 ∧ L = -1) ∨ (l4 = 1 ∧ L = l3)) → (∀ y : Int, t ≤ y → y < 2 * c → l3 ≤ q.2.2.2 13 w 61 y) → n0 ≤ n → 16384 * n ≤ 16384 * n0 + 65536 * ce (q.2.2.2 13 w 62) v t + l3 + 16384 * l4 → WB q n F B Fm Bm → zP (zbind (f_Performance_writeStrokes_8 K m1 t l4 l3 s v 1 F B) (fun _ F B => zbind (f_Performance_endTrack K 1 x F B) (fun _ F B => some (0, F, B)))) (f_M_voiceTrack_72 Km m2 t L x w v Fm Bm) (WE2 q n0 (16384 * n0 + 65536 * ce (q.2.2.2 13 w 62) v (2 * c).toNat + 581920)) := by
  have hc := hP.1
  have hm := hP.2.1
  intro d
  induction d with
  | zero =>
    intro t m1 m2 n l4 l3 L F B Fm Bm et l1 l2 q3 q4 qy n1 nb h
    obtain ⟨a, rfl⟩ : ∃ a, m1 = a + 1 := ⟨m1 - 1, (by first | decide | omega)⟩
    obtain ⟨b, rfl⟩ : ∃ b, m2 = b + 1 := ⟨m2 - 1, (by first | decide | omega)⟩
    have f0 : F 5 s 0 = c := by rw [h.2.2.1 5 s 0 (by first | decide | omega)]; exact hc.2.1
    have g6 : Fm 13 w 60 = 2 * c := by rw [h.2.2.2.2.1 13 w 60 (by first | decide | omega)]; exact hm.2.2
    have tt : (2 * c).toNat = t := by omega
    have l4b : 0 ≤ l4 ∧ l4 ≤ 1 := by omega
    rw [tt] at hB ⊢
    rw [f_Performance_writeStrokes_8, f_M_voiceTrack_72, f0, g6, if_pos hs, if_pos (by unfold r32; omega), if_pos (by unfold r32; omega), if_pos (by first | decide | omega), if_pos hw, if_pos (by unfold r32; omega), if_pos (by unfold r32; omega), if_pos (by first | decide | omega), zb_s]
    refine P_bind (P_end (Km := Km) (q := q) (n := n) h0 hK hKm (by first | decide | omega) (by first | decide | omega) h) (fun r F1 B1 r' G1 D1 w1 => P_some ⟨n + 4, (by first | decide | omega), (by first | decide | omega), w1⟩)
  | succ d ih =>
    intro t m1 m2 n l4 l3 L F B Fm Bm et l1 l2 q3 q4 qy n1 nb h
    obtain ⟨a, rfl⟩ : ∃ a, m1 = a + 1 := ⟨m1 - 1, (by first | decide | omega)⟩
    obtain ⟨b, rfl⟩ : ∃ b, m2 = b + 1 := ⟨m2 - 1, (by first | decide | omega)⟩
    have f0 : F 5 s 0 = c := by rw [h.2.2.1 5 s 0 (by first | decide | omega)]; exact hc.2.1
    have g6 : Fm 13 w 60 = 2 * c := by rw [h.2.2.2.2.1 13 w 60 (by first | decide | omega)]; exact hm.2.2
    have l4b : 0 ≤ l4 ∧ l4 ≤ 1 := by omega
    obtain ⟨c1, c2, c3, c4⟩ := C_told (K := K) (t := (t : Int)) hs hP hr h (by first | decide | omega) (by first | decide | omega)
    obtain ⟨on, ev, j, e, hT, _, hV, h2, _, _, _, h4⟩ := PFD_s hP (t := (t : Int)) (by first | decide | omega) (by first | decide | omega)
    have bm : ∀ k y, Bm 13 w k y = q.2.2.2 13 w k y := fun k y => h.2.2.2.2.2 13 w k y (by first | decide | omega)
    have cs : ce (q.2.2.2 13 w 62) v (t + 1) = ce (q.2.2.2 13 w 62) v t + (if q.2.2.2 13 w 62 t = v then 1 else 0) := rfl
    have cm := ce_m (q.2.2.2 13 w 62) v ((2 * c).toNat - (t + 1)) (t + 1)
    rw [show t + 1 + ((2 * c).toNat - (t + 1)) = (2 * c).toNat by omega] at cm
    have nt : ((t + 1 : Nat) : Int) = (t : Int) + 1 := by omega
    rw [f_Performance_writeStrokes_8, f_M_voiceTrack_72, f0, g6, if_pos hs, if_pos (show r32 (t : Int) by unfold r32; omega), if_pos (show r32 (2 * c) by unfold r32; omega), if_neg (show ¬ 2 * c ≤ (t : Int) by omega), c2, zb_s, if_pos (show r32 (q.2.2.2 13 w 62 t) by unfold r32; omega), if_pos (show r32 v by unfold r32; omega), if_pos hw, if_pos (show r32 (t : Int) by unfold r32; omega), if_pos (show r32 (2 * c) by unfold r32; omega), if_neg (show ¬ 2 * c ≤ (t : Int) by omega), if_pos (show 0 ≤ (t : Int) ∧ (t : Int) < 4000 by omega), bm 62 t, bm 61 t, if_pos (show r32 (q.2.2.2 13 w 62 t) by unfold r32; omega), if_pos (show r32 v by unfold r32; omega)]
    by_cases z : q.2.2.2 13 w 62 t = v
    · rw [if_pos z] at cs
      rw [if_pos z, if_pos z, c1, zb_s, if_pos (by first | decide | omega), if_pos (show r32 L by unfold r32; omega)]
      have ty := qy t (by first | decide | omega) (by first | decide | omega)
      have eL : (if 0 ≤ L then f_M_voiceTrack_114 (f_M_voiceTrack_72 Km b) Km t L x w v (q.2.2.2 13 w 61 t) L Fm Bm else f_M_voiceTrack_114 (f_M_voiceTrack_72 Km b) Km t L x w v (q.2.2.2 13 w 61 t) 0 Fm Bm) = f_M_voiceTrack_114 (f_M_voiceTrack_72 Km b) Km t L x w v (q.2.2.2 13 w 61 t) l3 Fm Bm := by
        rcases q4 with ⟨p1, p2, p3⟩ | ⟨p1, p2⟩
        · rw [p3, if_neg (by decide), p2]
        · rw [p2, if_pos q3.1]
      rw [eL]
      unfold f_M_voiceTrack_114
      simp only [zb_a2]
      refine P_bind (P_delta (Km := Km) (q := q) (n := n) (d := q.2.2.2 13 w 61 t - l3) h0 hK hKm (by first | decide | omega) (by first | decide | omega) h) (fun r F1 B1 r' G1 D1 w1 => ?_)
      obtain ⟨u, u1, u2, w1⟩ := w1
      obtain ⟨d1, d2, d3, d4⟩ := C_told (K := K) (t := (t : Int)) hs hP hr w1 (by first | decide | omega) (by first | decide | omega)
      rw [d1, zb_s, if_pos (show r32 l4 by unfold r32; omega), if_pos (show r32 L by unfold r32; omega)]
      -- what follows in both cases
      have tail : ∀ (n' : Int) (F2 : zF) (B2 : zB) (G2 : zF) (D2 : zB), n' ≤ n + u + 1 - l4 → n0 ≤ n' → WB q n' F2 B2 G2 D2 → zP (zbind (f_Performance_writeStrokes_65 (f_Performance_writeStrokes_8 K a) K (q.2.2.2 13 w 61 t) t s v 1 F2 B2) (fun _ F B => zbind (f_Performance_endTrack K 1 x F B) (fun _ F B => some (0, F, B)))) (f_M_voiceTrack_132 (f_M_voiceTrack_72 Km b) Km t x w v G2 D2) (WE2 q n0 (16384 * n0 + 65536 * ce (q.2.2.2 13 w 62) v (2 * c).toNat + 581920)) := fun n' F2 B2 G2 D2 k1 k2 w2 => by
        obtain ⟨i1, i2, i3, i4⟩ := C_told (K := K) (t := (t : Int)) hs hP hr w2 (by first | decide | omega) (by first | decide | omega)
        unfold f_Performance_writeStrokes_65 f_M_voiceTrack_132 f_Performance_writeStrokes_90 f_M_voiceTrack_163
        rw [if_pos hs, i3, zb_s, if_pos (by first | decide | omega), if_pos hw, if_pos (by first | decide | omega), w2.2.2.2.2.2 13 w 63 t (by first | decide | omega)]
        simp only [zb_a2]
        refine P_put h0 w2 (by first | decide | omega) rfl (fun F3 B3 G3 D3 w3 => ?_)
        obtain ⟨j1, j2, j3, j4⟩ := C_told (K := K) (t := (t : Int)) hs hP hr w3 (by first | decide | omega) (by first | decide | omega)
        rw [j4, zb_s, w3.2.2.2.2.2 13 w 64 t (by first | decide | omega)]
        refine P_put h0 w3 (by first | decide | omega) rfl (fun F4 B4 G4 D4 w4 => ?_)
        rw [w4.2.2.2.2.2 13 w 61 t (by first | decide | omega), ← nt]
        refine ih (t + 1) a b (n' + 1 + 1) 1 (q.2.2.2 13 w 61 t) (q.2.2.2 13 w 61 t) F4 B4 G4 D4 (by first | decide | omega) (by first | decide | omega) (by first | decide | omega) hT (Or.inr ⟨rfl, rfl⟩) (fun y y0 y1 => ?_) (by first | decide | omega) (by first | decide | omega) w4
        have := PFD_m hP (y - t).toNat t (by first | decide | omega) (by first | decide | omega)
        rw [show (t : Int) + ((y - t).toNat : Int) = y by omega] at this
        exact this
      rcases q4 with ⟨p1, p2, p3⟩ | ⟨p1, p2⟩
      · rw [if_pos p1, p3, if_neg (by decide)]
        simp only [zb_a2]
        refine P_put h0 w1 (by first | decide | omega) rfl (fun F2 B2 G2 D2 w2 => ?_)
        exact tail (n + u + 1) F2 B2 G2 D2 (by first | decide | omega) (by first | decide | omega) w2
      · rw [if_neg (by first | decide | omega), if_pos (by first | decide | omega)]
        exact tail (n + u) F1 B1 G1 D1 (by first | decide | omega) (by first | decide | omega) w1
    · rw [if_neg z] at cs
      rw [if_neg z, if_neg z]
      unfold f_Performance_writeStrokes_90 f_M_voiceTrack_163
      rw [← nt]
      exact ih (t + 1) a b n l4 l3 L F B Fm Bm (by first | decide | omega) (by first | decide | omega) (by first | decide | omega) q3 q4 (fun y y0 y1 => qy y (by first | decide | omega) y1) n1 (by first | decide | omega) h
end
end
