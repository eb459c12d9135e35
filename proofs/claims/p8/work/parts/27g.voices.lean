section
/-! ===== all voices read, both sides ===== -/
def VTF (p w : Int) (F : zF) (B : zB) (Fm : zF) (Bm : zB) (F' : zF) (B' : zB) (Fm' : zF) (Bm' : zB) : Prop :=
  (∀ c y k, ¬ (c = 11 ∧ y = 0) → ¬ (c = 4 ∧ 6 ≤ k ∧ ∃ u, 0 ≤ u ∧ u < 4 ∧ 0 ≤ B 6 p 0 u ∧ y = B 6 p 0 u) → ¬ (c = 1 ∧ ∃ u, 0 ≤ u ∧ u < 4 ∧ 0 ≤ B 6 p 0 u ∧ ownE B (B 6 p 0 u) y) → F' c y k = F c y k) ∧
  (∀ c y k x, ¬ (c = 11 ∧ y = 0) → ¬ (c = 4 ∧ 5 ≤ k ∧ ∃ u, 0 ≤ u ∧ u < 4 ∧ 0 ≤ B 6 p 0 u ∧ y = B 6 p 0 u) → ¬ (c = 1 ∧ ∃ u, 0 ≤ u ∧ u < 4 ∧ 0 ≤ B 6 p 0 u ∧ ownE B (B 6 p 0 u) y) → B' c y k x = B c y k x) ∧
  (∀ u y, 0 ≤ u → u < 4 → (ownE B' (B 6 p 0 u) y ↔ ownE B (B 6 p 0 u) y)) ∧
  (∀ c i k, ¬ (c = 14 ∧ i = 0 ∧ (k ≤ 1 ∨ k = 17 ∨ k = 18 ∨ (35 ≤ k ∧ k ≤ 57))) → ¬ (c = 13 ∧ i = w ∧ k = 7) → Fm' c i k = Fm c i k) ∧
  (∀ c i k x, ¬ (c = 14 ∧ i = 0 ∧ 42 ≤ k ∧ k ≤ 51) → ¬ (c = 13 ∧ i = w ∧ 12 ≤ k ∧ k ≤ 35) → Bm' c i k x = Bm c i k x) ∧
  (∀ q, (∀ s, 0 ≤ s → s < 63 → r32 (B 4 q 12 s)) → ∀ s, 0 ≤ s → s < 63 → r32 (B' 4 q 12 s))
theorem VTF_r {p w : Int} {F : zF} {B : zB} {Fm : zF} {Bm : zB} : VTF p w F B Fm Bm F B Fm Bm := ⟨fun _ _ _ _ _ _ => rfl, fun _ _ _ _ _ _ _ => rfl, fun _ _ _ _ => Iff.rfl, fun _ _ _ _ _ => rfl, fun _ _ _ _ _ _ => rfl, fun _ h => h⟩
theorem VTF_t {p w : Int} {F F1 F2 : zF} {B B1 B2 : zB} {Fm Fm1 Fm2 : zF} {Bm Bm1 Bm2 : zB} (h : VTF p w F B Fm Bm F1 B1 Fm1 Bm1) (h' : VTF p w F1 B1 Fm1 Bm1 F2 B2 Fm2 Bm2) : VTF p w F B Fm Bm F2 B2 Fm2 Bm2 := by
  have e6 : ∀ u, B1 6 p 0 u = B 6 p 0 u := fun u => h.2.1 6 p 0 u (by first | decide | omega) (by first | decide | omega) (by first | decide | omega)
  refine ⟨fun c y k a b d => ?_, fun c y k x a b d => ?_, fun u y u0 u1 => ?_, fun c i k a b => by rw [h'.2.2.2.1 c i k a b, h.2.2.2.1 c i k a b], fun c i k x a b => by rw [h'.2.2.2.2.1 c i k x a b, h.2.2.2.2.1 c i k x a b], fun q hq => h'.2.2.2.2.2 q (h.2.2.2.2.2 q hq)⟩
  · rw [h'.1 c y k a (fun ⟨z1, z2, u, z3, z4, z5⟩ => b ⟨z1, z2, u, z3, z4, by rw [← e6]; exact z5⟩) (fun ⟨z1, u, z2, z3, z4⟩ => d ⟨z1, u, z2, z3, by rw [← e6]; exact z4.1, (h.2.2.1 u y z2 z3).mp (by rw [← e6]; exact z4.2)⟩), h.1 c y k a b d]
  · rw [h'.2.1 c y k x a (fun ⟨z1, z2, u, z3, z4, z5⟩ => b ⟨z1, z2, u, z3, z4, by rw [← e6]; exact z5⟩) (fun ⟨z1, u, z2, z3, z4⟩ => d ⟨z1, u, z2, z3, by rw [← e6]; exact z4.1, (h.2.2.1 u y z2 z3).mp (by rw [← e6]; exact z4.2)⟩), h.2.1 c y k x a b d]
  · have := h'.2.2.1 u y u0 u1
    rw [e6] at this
    exact this.trans (h.2.2.1 u y u0 u1)
theorem VTF_v {p v w : Int} {F F' : zF} {B B' : zB} {Fm Fm' : zF} {Bm Bm' : zB} (v0 : 0 ≤ v ∧ v < 4) (hq : 0 ≤ B 6 p 0 v) (k12 : ∀ s, 0 ≤ s → s < 63 → r32 (B' 4 (B 6 p 0 v) 12 s)) (h : VFR (B 6 p 0 v) v w F B Fm Bm F' B' Fm' Bm') : VTF p w F B Fm Bm F' B' (zup3 Fm' 14 0 35 (v + 1)) Bm' := by
  refine ⟨fun c y k a b d => h.1 c y k a (fun z => b ⟨z.1, z.2.2, v, v0.1, v0.2, hq, z.2.1⟩) (fun z => d ⟨z.1, v, v0.1, v0.2, hq, z.2⟩), fun c y k x a b d => h.2.1 c y k x a (fun z => b ⟨z.1, z.2.2, v, v0.1, v0.2, hq, z.2.1⟩) (fun z => d ⟨z.1, v, v0.1, v0.2, hq, z.2⟩), fun u y u0 u1 => ?_, fun c i k a b => by rw [zup3_v, if_neg (by first | decide | omega)]; exact h.2.2.2.1 c i k (by first | decide | omega) b, fun c i k x a b => h.2.2.2.2.1 c i k x a (fun z => b ?_), fun q hh s s0 s1 => ?_⟩
  · by_cases e : B 6 p 0 u = B 6 p 0 v
    · rw [e]; exact h.2.2.1 y
    · unfold ownE
      have : ∀ t, B' 4 (B 6 p 0 u) 5 t = B 4 (B 6 p 0 u) 5 t := fun t => h.2.1 4 _ 5 t (by first | decide | omega) (fun z => e z.2.1) (by first | decide | omega)
      simp only [this]
  · unfold inW at z
    omega
  · by_cases e : q = B 6 p 0 v
    · rw [e]; exact k12 s s0 s1
    · rw [h.2.1 4 q 12 s (by first | decide | omega) (fun z => e z.2.1) (by first | decide | omega)]; exact hh s s0 s1
theorem VLS_n {K : zK} {Km : Nat} {N L V p w n d v : Int} {B0 Bm0 : zB} {F F' : zF} {B B' : zB} {Fm Fm' : zF} {Bm Bm' : zB} {m : Nat} {g : Int → Int} (h : VLS K Km N L V p w n d v B0 Bm0 F B Fm Bm) (vV : v < V) (f : VFR (B 6 p 0 v) v w F B Fm Bm F' B' Fm' Bm') (k12 : ∀ s, 0 ≤ s → s < 63 → r32 (B' 4 (B 6 p 0 v) 12 s)) (hD : VD K (B 6 p 0 v) v w m (barV n d) g F' B' Bm') (hbar : Fm' 13 w 7 = clB (F' 4 (B 6 p 0 v) 7) (barV n d)) : VLS K Km N L V p w n d (v + 1) B0 Bm0 F' B' (zup3 Fm' 14 0 35 (v + 1)) Bm' := by
  obtain ⟨⟨hK, hKm, h11, h3, hp, w0, hn, hd, v0⟩, ⟨c1, c2, c3, c4, c5, c6, c7, c8, c9, c10⟩, ⟨⟨t0, t1, t2⟩, hT, hMW, hLT, hGS⟩, hU, hDs, ⟨o7, o5, o4, h12k⟩⟩ := h
  have u1 := (hU v v0.1 vV).1
  have hI : inJ (B 6 p 0 v) B := fun t t' a0 a1 b0 b1 e => (hGS.2.2.2.2 _ t _ t' u1.1 u1.2 a0 a1 u1.1 u1.2 b0 b1 e).2
  have e6 : ∀ u, B' 6 p 0 u = B 6 p 0 u := fun u => f.2.1 6 p 0 u (by first | decide | omega) (by first | decide | omega) (by first | decide | omega)
  have F6 : ∀ k, F' 6 p k = F 6 p k := fun k => f.1 6 p k (by first | decide | omega) (by first | decide | omega) (by first | decide | omega)
  have F12 : ∀ k, F' 12 0 k = F 12 0 k := fun k => f.1 12 0 k (by first | decide | omega) (by first | decide | omega) (by first | decide | omega)
  have gm : ∀ c i k, ¬ (c = 14 ∧ i = 0 ∧ (k ≤ 1 ∨ k = 17 ∨ k = 18 ∨ (35 ≤ k ∧ k ≤ 57))) → ¬ (c = 13 ∧ i = w ∧ k = 7) → zup3 Fm' 14 0 35 (v + 1) c i k = Fm c i k := fun c i k a b => by rw [zup3_v, if_neg (by first | decide | omega)]; exact f.2.2.2.1 c i k (by first | decide | omega) b
  have b3 : ∀ k y, B' 3 0 k y = B 3 0 k y := fun k y => f.2.1 3 0 k y (by first | decide | omega) (by first | decide | omega) (by first | decide | omega)
  have b10 : ∀ k y, B' 10 0 k y = B 10 0 k y := fun k y => f.2.1 10 0 k y (by first | decide | omega) (by first | decide | omega) (by first | decide | omega)
  have m14 : ∀ (k : Nat) y, k < 42 → Bm' 14 0 k y = Bm 14 0 k y := fun k y hk => f.2.2.2.2.1 14 0 k y (by first | decide | omega) (by unfold inW; omega)
  have neq : ∀ u, 0 ≤ u → u < V → ¬ u = v → ¬ B 6 p 0 u = B 6 p 0 v := fun u u0 u1' n e => n (hGS.2.2.1 p u p v hp.1 hp.2 u0 (by first | decide | omega) hp.1 hp.2 v0.1 (by first | decide | omega) (hU u u0 u1').1.1 e).2
  have own : ∀ u, 0 ≤ u → u < V → ¬ u = v → ∀ i : Int, 0 ≤ i → i < 200 → ¬ ownE B (B 6 p 0 v) (B 4 (B 6 p 0 u) 5 i) := fun u u0 u1' n i i0 i1 ⟨j, j0, j1, j2⟩ => neq u u0 u1' n (hGS.2.2.2.2 _ j _ i u1.1 u1.2 j0 j1 (hU u u0 u1').1.1 (hU u u0 u1').1.2 i0 i1 j2).1.symm
  refine ⟨⟨hK, hKm, h11, h3, hp, w0, hn, hd, (by first | decide | omega)⟩, ⟨by rw [F6]; exact c1, by rw [gm 13 w 1 (by first | decide | omega) (by first | decide | omega)]; exact c2, by rw [F6]; exact c3, by rw [F6]; exact c4, by rw [gm 13 w 4 (by first | decide | omega) (by first | decide | omega)]; exact c5, by rw [gm 13 w 5 (by first | decide | omega) (by first | decide | omega)]; exact c6, by rw [F6]; exact c7, by rw [gm 14 0 6 (by first | decide | omega) (by first | decide | omega)]; exact c8, by rw [zup3_v, if_pos (by first | decide | omega)], by rw [gm 14 0 27 (by first | decide | omega) (by first | decide | omega)]; exact c10⟩, ⟨⟨t0, t1, fun j a b => ?_⟩, ⟨fun k y => by rw [b3]; exact hT.1 k y, fun k y hk => by rw [m14 k y (by first | decide | omega)]; exact hT.2.1 k y hk, fun k y h0 h1 h2 => by rw [m14 k y (by first | decide | omega)]; exact hT.2.2.1 k y h0 h1 h2, hT.2.2.2⟩, hMW, hLT, GS_v hGS u1 hI f⟩, fun u u0 u1' => ?_, fun u u0 u1' => ?_, by rw [F12, F12, F12]; exact ⟨o7, o5, o4, h12k⟩⟩
  · have := t2 j a b
    unfold TKj at this ⊢
    simp only [b10, m14 7 _ (by decide), m14 8 _ (by decide), m14 9 _ (by decide), m14 10 _ (by decide), m14 11 _ (by decide)]
    exact this
  · obtain ⟨r1, r2, r3, r4, r5, r6, r7, r8, r9⟩ := hU u u0 u1'
    have F4 : ∀ k, k < 6 → F' 4 (B 6 p 0 u) k = F 4 (B 6 p 0 u) k := fun k hk => f.1 4 _ k (by first | decide | omega) (by first | decide | omega) (by first | decide | omega)
    rw [e6, F4 3 (by decide), F4 1 (by decide), F4 4 (by decide), m14 28 u (by decide), m14 29 u (by decide), m14 8 _ (by decide)]
    refine ⟨r1, r2, r3, r4, r5, r6, r7, fun hu => ?_, fun s s0 s1 => ?_⟩
    · rw [f.1 4 _ 6 (by first | decide | omega) (fun z => neq u u0 u1' (by first | decide | omega) z.2.1) (by first | decide | omega)]
      exact r8 (by first | decide | omega)
    · by_cases e : u = v
      · rw [e]; exact k12 s s0 s1
      · rw [f.2.1 4 _ 12 s (by first | decide | omega) (fun z => neq u u0 u1' e z.2.1) (by first | decide | omega)]
        exact r9 s s0 s1
  · rw [e6]
    by_cases e : u = v
    · rw [e]; exact ⟨m, g, hD, fun _ => by rw [zup3_v, if_neg (by first | decide | omega)]; exact hbar⟩
    · obtain ⟨m', g', hD', _⟩ := hDs u u0 (by first | decide | omega)
      exact ⟨m', g', VD_f e (by first | decide | omega) (by first | decide | omega) (neq u u0 (by first | decide | omega) e) (own u u0 (by first | decide | omega) e) hD' f, fun y => (by first | decide | omega)⟩
theorem P_vs {K : zK} {Km : Nat} {N L V p w n d l1 : Int} {B0 Bm0 : zB} : ∀ (r a b : Nat) {v : Int} {F : zF} {B : zB} {Fm : zF} {Bm : zB}, v + r = V → r + 1 < a → r + 1 < b → VLS K Km N L V p w n d v B0 Bm0 F B Fm Bm → Fm 14 0 17 = 0 → ∃ fl F' B' Fm' Bm', f_S_read_54 a K v 0 0 l1 F B = f_S_read_121 K fl 0 l1 F' B' ∧ f_M_through_5 Km b Fm Bm = f_M_through_161 Km Fm' Bm' ∧ VTF p w F B Fm Bm F' B' Fm' Bm' ∧ (∀ u, 0 ≤ u → u < V → ∀ s, 0 ≤ s → s < 63 → r32 (B' 4 (B 6 p 0 u) 12 s)) ∧ GS K B' ∧ ((fl = 0 ∧ Fm' 14 0 17 = 0 ∧ VLS K Km N L V p w n d V B0 Bm0 F' B' Fm' Bm') ∨ (bad Fm' ∧ fl = Fm' 14 0 17 + 16 * Fm' 14 0 18 ∧ 0 ≤ Fm' 14 0 18 ∧ Fm' 14 0 18 ≤ 3000)) := by
  intro r
  induction r with
  | zero =>
    intro a b v F B Fm Bm vr ha hb h h17
    obtain ⟨a, rfl⟩ : ∃ k, a = k + 1 := ⟨a - 1, (by first | decide | omega)⟩
    obtain ⟨b, rfl⟩ : ∃ k, b = k + 1 := ⟨b - 1, (by first | decide | omega)⟩
    have h' := h
    obtain ⟨⟨hK, hKm, h11, h3, hp, w0, hn, hd, v0⟩, ⟨c1, c2, c3, c4, c5, c6, c7, c8, c9, c10⟩, ⟨_, _, _, _, hGS⟩, hU, _, ⟨o7, o5, o4, h12k⟩⟩ := h
    have ev : v = V := by omega
    have rv : r32 v := by unfold r32; omega
    have rV : r32 V := by unfold r32; omega
    refine ⟨0, F, B, Fm, Bm, ?_, ?_, VTF_r, fun u u0 u1 => (hU u u0 u1).2.2.2.2.2.2.2.2, hGS, Or.inl ⟨rfl, h17, by rw [← ev]; rw [← ev] at h'; exact h'⟩⟩
    · rw [f_S_read_54, if_pos ⟨Int.le_refl _, h12k⟩, o7, if_pos hp, if_pos rv, c1, if_pos rV, if_pos (by first | decide | omega)]
    · rw [f_M_through_5, c8, if_pos w0, c9, if_pos rv, c2, if_pos rV, if_pos (by first | decide | omega)]
  | succ r ih =>
    intro a b v F B Fm Bm vr ha hb h h17
    obtain ⟨a, rfl⟩ : ∃ k, a = k + 1 := ⟨a - 1, (by first | decide | omega)⟩
    obtain ⟨b, rfl⟩ : ∃ k, b = k + 1 := ⟨b - 1, (by first | decide | omega)⟩
    have h' := h
    obtain ⟨⟨hK, hKm, h11, h3, hp, w0, hn, hd, v0⟩, ⟨c1, c2, c3, c4, c5, c6, c7, c8, c9, c10⟩, ⟨_, _, _, _, hGS⟩, hU, _, ⟨o7, o5, o4, h12k⟩⟩ := h
    have vV : v < V := by omega
    obtain ⟨fl, F1, B1, Fm1, Bm1, x1, x2, x3, x4, x5⟩ := P_vstep (a := a) (b := b) (l1 := l1) h' h17 vV
    have u1 := (hU v v0.1 vV).1
    have ft := VTF_v (p := p) (by first | decide | omega) u1.1 x4 x3
    have hI : inJ (B 6 p 0 v) B := fun t t' a0 a1 b0 b1 e => (hGS.2.2.2.2 _ t _ t' u1.1 u1.2 a0 a1 u1.1 u1.2 b0 b1 e).2
    have e6 : ∀ u, B1 6 p 0 u = B 6 p 0 u := fun u => x3.2.1 6 p 0 u (by first | decide | omega) (by first | decide | omega) (by first | decide | omega)
    rw [x1, x2]
    rcases x5 with ⟨rfl, k17, m, g, hD, hbar⟩ | ⟨bd, efl, q0, q1⟩
    · have hn' := VLS_n h' vV x3 x4 hD hbar
      obtain ⟨fl', F2, B2, Fm2, Bm2, y1, y2, y3, y4, y5, y6⟩ := ih a b (v := v + 1) (by first | decide | omega) (by first | decide | omega) (by first | decide | omega) hn' (by rw [zup3_v, if_neg (by first | decide | omega)]; exact k17)
      refine ⟨fl', F2, B2, Fm2, Bm2, y1, y2, VTF_t ft y3, fun u u0 u1 => ?_, y5, y6⟩
      have := y4 u u0 u1
      rw [e6] at this
      exact this
    · obtain ⟨a, rfl⟩ : ∃ k, a = k + 1 := ⟨a - 1, (by first | decide | omega)⟩
      obtain ⟨b, rfl⟩ : ∃ k, b = k + 1 := ⟨b - 1, (by first | decide | omega)⟩
      have rv : r32 (v + 1) := by unfold r32; omega
      have rV : r32 V := by unfold r32; omega
      have bd' : bad (zup3 Fm1 14 0 35 (v + 1)) := by unfold bad at bd ⊢; rw [zup3_v, if_neg (by first | decide | omega)]; exact bd
      have p7 : F1 12 0 7 = p := by rw [x3.1 12 0 7 (by first | decide | omega) (by first | decide | omega) (by first | decide | omega)]; exact o7
      have p1 : F1 6 p 1 = V := by rw [x3.1 6 p 1 (by first | decide | omega) (by first | decide | omega) (by first | decide | omega)]; exact c1
      have rf : r32 fl ∧ ¬ fl = 0 := by unfold bad at bd; unfold r32; omega
      refine ⟨fl, F1, B1, _, Bm1, ?_, ?_, ft, fun u u0 u1' s s0 s1 => ?_, GS_v hGS u1 hI x3, Or.inr ⟨bd', by rw [zup3_v, if_neg (by first | decide | omega), zup3_v, if_neg (by first | decide | omega)]; exact efl, by rw [zup3_v, if_neg (by first | decide | omega)]; exact ⟨q0, q1⟩⟩⟩
      · rw [f_S_read_54, if_pos ⟨Int.le_refl _, h12k⟩, p7, if_pos hp, if_pos rv, p1, if_pos rV]
        by_cases z : V ≤ v + 1
        · rw [if_pos z]
        · rw [if_neg z, if_pos rf.1, if_neg rf.2]
      · have g6 : zup3 Fm1 14 0 35 (v + 1) 14 0 6 = w := by rw [zup3_v, if_neg (by first | decide | omega), x3.2.2.2.1 14 0 6 (by first | decide | omega) (by first | decide | omega)]; exact c8
        have g35 : zup3 Fm1 14 0 35 (v + 1) 14 0 35 = v + 1 := by rw [zup3_v, if_pos (by first | decide | omega)]
        have gV : zup3 Fm1 14 0 35 (v + 1) 13 w 1 = V := by rw [zup3_v, if_neg (by first | decide | omega), x3.2.2.2.1 13 w 1 (by first | decide | omega) (by first | decide | omega)]; exact c2
        rw [f_M_through_5, g6, if_pos w0, g35, if_pos rv, gV, if_pos rV]
        by_cases z : V ≤ v + 1
        · rw [if_pos z]
        · rw [if_neg z, L_goodB bd', zb_s, if_pos (by decide), if_pos rfl]
      · by_cases e : B 6 p 0 u = B 6 p 0 v
        · rw [e]; exact x4 s s0 s1
        · rw [x3.2.1 4 _ 12 s (by first | decide | omega) (fun z => e z.2.1) (by first | decide | omega)]
          exact (hU u u0 u1').2.2.2.2.2.2.2.2 s s0 s1
end
