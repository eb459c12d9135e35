section
variable {cc : Int}
/-! ===== the call of perform ===== -/
theorem MK_p {V w : Int} {F F' : zF} {B B' : zB} (h : MK V w F B) (f : F' 13 w 7 = F 13 w 7 ∧ F' 13 w 72 = F 13 w 72 ∧ F' 13 w 76 = F 13 w 76) (b : ∀ k x, k ≤ 46 ∨ 73 ≤ k → B' 13 w k x = B 13 w k x) : MK V w F' B' := by
  obtain ⟨h1, h2, h3⟩ := h
  refine ⟨MW5_f h1 f.2.1 (fun k x hk => b k x (by first | decide | omega)), ?_, by rw [f.2.2]; exact h3⟩
  rw [f.1]
  exact CDm_a h2 (fun k x hk => b k x (by first | decide | omega))
theorem IOp_g {K K' : zK} {F F' : zF} {B B' : zB} {Fm Fm' : zF} {Bm Bm' : zB} (h : IOp K F B Fm Bm) (k8 : K'.2 8 = K.2 8) (f8 : F' 12 0 8 = F 12 0 8) (f9 : F' 12 0 9 = F 12 0 9) (f : ∀ o k, o < K.2 8 → F' 8 o k = F 8 o k) (b : ∀ o k x, o < K.2 8 → B' 8 o k x = B 8 o k x) (g : Fm' 14 0 72 = Fm 14 0 72) (m : ∀ k x, k = 73 ∨ (75 ≤ k ∧ k ≤ 81) → Bm' 14 0 k x = Bm 14 0 k x) : IOp K' F' B' Fm' Bm' := by
  obtain ⟨h1, h2, h3, h4⟩ := h
  unfold IOp
  rw [f8, f9, g, k8]
  refine ⟨h1, h2, h3, ?_⟩
  rcases h4 with h4 | ⟨a, c, e⟩
  · exact Or.inl h4
  · exact Or.inr ⟨a, c, OPN_f e (f _ _ h1.2) (fun k x => b _ k x h1.2) m⟩
theorem IE_pf {cd : Int} {K K' : zK} {Km : Nat} {p p0 p1 w w0 w1 q v s V : Int} {F F' : zF} {B B' : zB} {Fm Fm' : zF} {Bm Bm' : zB} (h : IE cc K Km p p0 p1 w w0 w1 F B Fm Bm) (hq : (q = p0 ∧ v = w0) ∨ (q = p1 ∧ v = w1)) (hP : PK K V q v F B Fm Bm) (hM : MK V v Fm Bm) (m0 : Fm 13 v 0 = 1) (k1 : K'.1 = K.1) (sb : 0 ≤ s ∧ s < K'.2 5) (sc : (s = F 6 q 9 ∧ K' = K) ∨ (F 6 q 9 < 0 ∧ s = K.2 5 ∧ K' = (K.1, zinN K.2 5))) (e9 : F' 6 q 9 = s) (f : pfF K q s F F') (b : pfB K s B B') (g : pfG v Fm Fm') (m : pfM v Bm Bm') (hD : PD K' V q v F' B' Fm' Bm') (hU' : IU cd K' F' B' Fm' Bm') : IE cd K' Km p p0 p1 w w0 w1 F' B' Fm' Bm' := by
  obtain ⟨⟨⟨a1, a2, a3⟩, hB, ⟨d1, d2, d3, d4, d5, d6, d7⟩, hT, ⟨n1, n2, n3, n4, n5, n6⟩, hW, hQ, hG, hF, s0, s1⟩, t61, hS, e0, e1, hU, l0, l1⟩ := h
  have hq0 := hP.1.1
  have kc : ∀ c, ¬ c = 5 → K'.2 c = K.2 c := fun c hc => by
    rcases sc with ⟨_, z⟩ | ⟨_, _, z⟩
    · rw [z]
    · rw [z]; show zinN K.2 5 c = K.2 c; rw [zinN_v, if_neg hc]
  have k5 : K.2 5 ≤ K'.2 5 := by
    rcases sc with ⟨_, z⟩ | ⟨_, _, z⟩
    · rw [z]; exact Int.le_refl _
    · rw [z]; show K.2 5 ≤ zinN K.2 5 5; rw [zinN_v, if_pos rfl]; omega
  have kk : ∀ c, K.2 c ≤ K'.2 c := fun c => by
    by_cases z : c = 5
    · rw [z]; exact k5
    · rw [kc c z]; exact Int.le_refl _
  have f12 : ∀ k, F' 12 0 k = F 12 0 k := fun k => f 12 0 k (by first | decide | omega) (by first | decide | omega) (by first | decide | omega)
  have f3 : ∀ k, F' 3 0 k = F 3 0 k := fun k => f 3 0 k (by first | decide | omega) (by first | decide | omega) (by first | decide | omega)
  have f6 : ∀ y k, y < K.2 6 → ¬ (y = q ∧ 9 ≤ k ∧ k ≤ 11) → F' 6 y k = F 6 y k := fun y k hy n => f 6 y k hy (by first | decide | omega) (by first | decide | omega)
  have f4 : ∀ y k, y < K.2 4 → F' 4 y k = F 4 y k := fun y k hy => f 4 y k hy (by first | decide | omega) (by first | decide | omega)
  have b4 : ∀ y k x, y < K.2 4 → B' 4 y k x = B 4 y k x := fun y k x hy => b 4 y k x hy (by first | decide | omega)
  have b6 : ∀ y k x, y < K.2 6 → B' 6 y k x = B 6 y k x := fun y k x hy => b 6 y k x hy (by first | decide | omega)
  have q1 := kc 1 (by decide)
  have q4 := kc 4 (by decide)
  have q6 := kc 6 (by decide)
  have gs : GS K' B' := by
    have := GS_B d1 (B' := B') (fun p v _ z => b6 p 0 v z) (fun q x _ z => b4 q 5 x z)
    obtain ⟨g1, g2, g3, g4, g5⟩ := this
    refine ⟨fun c hc => ?_, by rw [q6, q4]; exact g2, by rw [q6]; exact g3, by rw [q4, q1]; exact g4, by rw [q4]; exact g5⟩
    have := g1 c hc
    rw [q1, kc c (by first | decide | omega)]
    exact this
  have hi1 : ∀ y i, 0 ≤ y → y < K.2 4 → 0 ≤ i → i < 200 → B 4 y 5 i < K.2 1 := fun y i a b c d => (d1.2.2.2.1 y i a b c d).2
  have hsl : ∀ y u, ¬ u = v → SL K y u F B Fm Bm → SL K' y u F' B' Fm' Bm' := fun y u hu s => SL_e s kk (fun _ hy k hk => f6 y k hy (by first | decide | omega)) (fun _ hy v => b6 y 0 v hy) (fun y k _ hy _ _ _ => ⟨f4 y k hy, fun x => b4 y k x hy⟩) (fun y i k y0 hy _ _ _ i0 i1 => ⟨f 1 _ k (hi1 y i y0 hy i0 i1) (by first | decide | omega) (by first | decide | omega), fun x => b 1 _ k x (hi1 y i y0 hy i0 i1) (by first | decide | omega)⟩) (fun k => g 13 u k (by first | decide | omega) (by first | decide | omega)) (fun k x => m 13 u k x (by first | decide | omega) (by first | decide | omega))
  have hq4 : ∀ u, 0 ≤ u → u < V → (0 ≤ B 6 q 0 u ∧ B 6 q 0 u < K.2 4) := fun u u0 u1 => (hP.2.2 u u0 u1).1.1
  have slq : SL K' q v F' B' Fm' Bm' := by
    refine Or.inr ⟨hq0.1, by rw [g 13 v 0 (by first | decide | omega) (by first | decide | omega)]; exact m0, V, ?_, MK_p hM ⟨g 13 v 7 (by first | decide | omega) (by first | decide | omega), g 13 v 72 (by first | decide | omega) (by first | decide | omega), g 13 v 76 (by first | decide | omega) (by first | decide | omega)⟩ (fun k x hk => m 13 v k x (by first | decide | omega) (by first | decide | omega))⟩
    refine PK_e hP kk (fun k hk => f6 q k hq0.2 (by first | decide | omega)) (by funext u; exact b6 q 0 u hq0.2) (fun u u0 u1 => by funext k; exact f4 _ k (hq4 u u0 u1).2) (fun u u0 u1 => by funext k x; exact b4 _ k x (hq4 u u0 u1).2) (fun u i u0 u1 i0 i1 => ?_) (fun u i u0 u1 i0 i1 => ?_) (fun k hk _ => g 13 v k (by first | decide | omega) (by first | decide | omega)) (fun k x hk => m 13 v k x (by first | decide | omega) (by first | decide | omega))
    · funext k; exact f 1 _ k (hi1 _ i (hq4 u u0 u1).1 (hq4 u u0 u1).2 i0 i1) (by first | decide | omega) (by first | decide | omega)
    · funext k x; exact b 1 _ k x (hi1 _ i (hq4 u u0 u1).1 (hq4 u u0 u1).2 i0 i1) (by first | decide | omega)
  have ns : ∀ y, 0 ≤ y → y < K.2 6 → ¬ y = q → 0 ≤ F 6 y 9 → ¬ F 6 y 9 = s ∧ F 6 y 9 < K.2 5 := fun y y0 y1 n z => by
    have l := (hF y y0 y1).2.1
    rcases sc with ⟨a, _⟩ | ⟨_, a, _⟩
    · exact ⟨by rw [a]; exact hS.2 9 (by first | decide | omega) y q y0 y1 hq0.1 hq0.2 n z, l⟩
    · exact ⟨(by first | decide | omega), l⟩
  have hsd : ∀ y u, ¬ u = v → y < K.2 6 → ¬ y = q → SDk K y u F B Fm Bm → SDk K' y u F' B' Fm' Bm' := fun y u hu hy n s y0 => by
    rw [f6 y 1 hy (by first | decide | omega)]
    refine PD_e (s y0) k5 (fun k _ _ => f6 y k hy (by first | decide | omega)) (fun z => ?_) (fun z => ?_) (fun k => g 13 u k (by first | decide | omega) (by first | decide | omega)) (fun k x => m 13 u k x (by first | decide | omega) (by first | decide | omega))
    · have := ns y y0 hy n z
      funext k; exact f 5 _ k this.2 (by first | decide | omega) (by first | decide | omega)
    · have := ns y y0 hy n z
      funext k x; exact b 5 _ k x this.2 (by first | decide | omega)
  have sdq : SDk K' q v F' B' Fm' Bm' := fun _ => by
    rw [f6 q 1 hq0.2 (by first | decide | omega), hP.1.2.2.2.1]; exact hD
  have m14 : ∀ k, k = 13 ∨ k = 14 ∨ k = 15 ∨ k = 58 ∨ k = 61 → Bm' 14 0 k = Bm 14 0 k := fun k hk => by funext x; exact m 14 0 k x (by first | decide | omega) (by first | decide | omega)
  have ex : ∀ k, (36 ≤ k ∧ k ≤ 46) ∨ 77 ≤ k → ∀ i x, Bm' 13 i k x = Bm 13 i k x := fun k hk i x => m 13 i k x (by first | decide | omega) (by first | decide | omega)
  have fin : (SL K' p0 w0 F' B' Fm' Bm' ∧ SL K' p1 w1 F' B' Fm' Bm') ∧ SDk K' p0 w0 F' B' Fm' Bm' ∧ SDk K' p1 w1 F' B' Fm' Bm' := by
    obtain ⟨⟨z1, z2, z3⟩, z4, z5⟩ := hQ
    rcases hq with ⟨rfl, rfl⟩ | ⟨rfl, rfl⟩
    · exact ⟨⟨slq, hsl p1 w1 (fun e => hW.2.2.2.2.2 e.symm) s1⟩, sdq, hsd p1 w1 (fun e => hW.2.2.2.2.2 e.symm) z3 (fun e => z5 hq0.1 e.symm) e1⟩
    · have np : 0 ≤ p0 → ¬ p0 = q := z5
      refine ⟨⟨hsl p0 w0 hW.2.2.2.2.2 s0, slq⟩, fun z => hsd p0 w0 hW.2.2.2.2.2 z2 (np z) e0 z, sdq⟩
  have hT' : IT F' B' Fm' Bm' := by
    obtain ⟨t1, t2, t3, t4, t5⟩ := hT
    have e : F' 0 0 1 = F 0 0 1 := f 0 0 1 (by first | decide | omega) (by first | decide | omega) (by first | decide | omega)
    have eb : ∀ y, B' 0 0 0 y = B 0 0 0 y := fun y => b 0 0 0 y (by first | decide | omega) (by first | decide | omega)
    exact ⟨by rw [e, g 14 0 3 (by first | decide | omega) (by first | decide | omega)]; exact t1, by rw [e]; exact t2, by rw [e]; exact t3, fun y => by rw [eb]; exact t4 y, by funext y; rw [eb, ← t5]; show Bm' 14 0 2 y % 256 = Bm 14 0 2 y % 256; rw [m 14 0 2 y (by first | decide | omega) (by first | decide | omega)]⟩
  refine ⟨⟨⟨by rw [k1]; exact a1, a2, ?_⟩, ?_, ⟨gs, fun j => by rw [b 10 0 5 j (by first | decide | omega) (by first | decide | omega)]; exact d2 j, fun q s h1 h2 h3 h4 => by rw [b4 q 12 s (by first | decide | omega)]; exact d3 q s h1 (by first | decide | omega) h3 h4, ?_, ?_, ?_, ?_⟩, hT', ⟨by rw [f12 7]; exact n1, by rw [b 12 0 3 0 (by first | decide | omega) (by first | decide | omega)]; exact n2, by rw [b 12 0 3 1 (by first | decide | omega) (by first | decide | omega)]; exact n3, by rw [g 14 0 6 (by first | decide | omega) (by first | decide | omega)]; exact n4, by rw [m 14 0 5 0 (by first | decide | omega) (by first | decide | omega)]; exact n5, by rw [m 14 0 5 1 (by first | decide | omega) (by first | decide | omega)]; exact n6⟩, hW, ?_, ?_, ?_, fin.1.1, fin.1.2⟩, ?_, ?_, fin.2.1, fin.2.2, hU', LNk_e l0 (fun k hk => g 13 w0 k (by first | decide | omega) (by first | decide | omega)) (fun k x hk => m 13 w0 k x (by first | decide | omega) (by first | decide | omega)), LNk_e l1 (fun k hk => g 13 w1 k (by first | decide | omega) (by first | decide | omega)) (fun k x hk => m 13 w1 k x (by first | decide | omega) (by first | decide | omega))⟩
  · rw [kc 0 (by decide), kc 2 (by decide), kc 3 (by decide), kc 7 (by decide), kc 8 (by decide), kc 9 (by decide), kc 10 (by decide), kc 11 (by decide), kc 12 (by decide)]
    omega
  · unfold IB at *
    rw [f12 0, f12 2, f12 4, f12 5, f12 6, f3]; exact hB
  · unfold MW at *
    rw [m14 13 (by first | decide | omega), m14 14 (by first | decide | omega), m14 15 (by first | decide | omega)]; exact d4
  · unfold XS at *
    simp only [m14 58 (by first | decide | omega), ex 36 (by decide), ex 37 (by decide), ex 38 (by decide), ex 39 (by decide), ex 40 (by decide), ex 41 (by decide)]; exact d5
  · unfold XC at *
    simp only [ex 42 (by decide), ex 45 (by decide), ex 46 (by decide)]; exact d6
  · unfold X77 at *
    simp only [ex 77 (by decide), ex 78 (by decide), ex 79 (by decide), ex 80 (by decide)]; exact d7
  · unfold IQp at *
    rw [q6]; exact hQ
  · unfold IG at *
    rw [q6, q4, q1, slE_e (fun _ v => b6 p 0 v hQ.1.1), slE_e (fun _ v => b6 p0 0 v hQ.1.2.1), slE_e (fun _ v => b6 p1 0 v hQ.1.2.2)]; exact hG
  · intro y y0 y1
    have := hF y y0 (by first | decide | omega)
    rw [f6 y 8 (by first | decide | omega) (by first | decide | omega), f6 y 12 (by first | decide | omega) (by first | decide | omega), kc 2 (by decide), kc 9 (by decide)]
    refine ⟨this.1, ?_, this.2.2⟩
    by_cases z : y = q
    · rw [z, e9]; exact sb.2
    · rw [f6 y 9 (by first | decide | omega) (by first | decide | omega)]; omega
  · unfold T61 at *
    rw [m14 61 (by first | decide | omega)]; exact t61
  · refine ⟨fun y y0 y1 z => ?_, fun k hk y y' y0 y1 z0 z1 n => ?_⟩
    · by_cases e : y = q
      · rw [e] at z ⊢
        exact hD.2.2.2.1 z
      · rw [f6 y 9 (by first | decide | omega) (by first | decide | omega)] at z ⊢
        have r := hS.1 y y0 (by first | decide | omega) z
        have l := ns y y0 (by first | decide | omega) e z
        unfold rwS at *
        rw [f 5 _ 8 l.2 (by first | decide | omega) (by first | decide | omega), f 5 _ 9 l.2 (by first | decide | omega) (by first | decide | omega)]; exact r
    · by_cases k9 : k = 9
      · subst k9
        by_cases e : y = q
        · rw [e, e9, f6 y' 9 (by first | decide | omega) (by first | decide | omega)]
          intro _ c
          exact (ns y' z0 (by first | decide | omega) (by first | decide | omega) (by first | decide | omega)).1 c.symm
        · by_cases e' : y' = q
          · rw [e', e9, f6 y 9 (by first | decide | omega) (by first | decide | omega)]
            intro z
            exact (ns y y0 (by first | decide | omega) e z).1
          · rw [f6 y 9 (by first | decide | omega) (by first | decide | omega), f6 y' 9 (by first | decide | omega) (by first | decide | omega)]
            exact hS.2 9 hk y y' y0 (by first | decide | omega) z0 (by first | decide | omega) n
      · rw [f6 y k (by first | decide | omega) (by first | decide | omega), f6 y' k (by first | decide | omega) (by first | decide | omega)]
        exact hS.2 k hk y y' y0 (by first | decide | omega) z0 (by first | decide | omega) n
theorem IU_pf {K K' : zK} {q v s : Int} {F F' : zF} {B B' : zB} {Fm Fm' : zF} {Bm Bm' : zB} (hU : IU cc K F B Fm Bm) (sb : 0 ≤ s ∧ s < K'.2 5) (sc : (s = F 6 q 9 ∧ K' = K) ∨ (F 6 q 9 < 0 ∧ s = K.2 5 ∧ K' = (K.1, zinN K.2 5))) (f : pfF K q s F F') (b : pfB K s B B') (g : pfG v Fm Fm') (m : pfM v Bm Bm') (pu : pfU K s F F') (pv : pfV v Fm Fm') (v0 : 0 ≤ v ∧ v < 3) (hq0 : 0 ≤ q ∧ q < K.2 6) (e9 : F' 6 q 9 = s) : IU cc K' F' B' Fm' Bm' := by
  have kc : ∀ c, ¬ c = 5 → K'.2 c = K.2 c := fun c hc => by
    rcases sc with ⟨_, z⟩ | ⟨_, _, z⟩
    · rw [z]
    · rw [z]; show zinN K.2 5 c = K.2 c; rw [zinN_v, if_neg hc]
  have q6 := kc 6 (by decide)
  have f6 : ∀ y k, y < K.2 6 → ¬ (y = q ∧ 9 ≤ k ∧ k ≤ 11) → F' 6 y k = F 6 y k := fun y k hy n => f 6 y k hy (by first | decide | omega) (by first | decide | omega)
  have u0 := hU
  obtain ⟨c0, _, hU5, _, _, hUm, _⟩ := u0
  have k5' : ∀ x, x < K'.2 5 → x < K.2 5 ∨ x = s := fun x hx => by
    rcases sc with ⟨_, z⟩ | ⟨_, z0, z⟩
    · rw [z] at hx; exact Or.inl hx
    · rw [z] at hx
      have hx : x < zinN K.2 5 5 := hx
      rw [zinN_v, if_pos rfl] at hx
      omega
  have q0 : 0 ≤ q ∧ q < K.2 6 := hq0
  have kn : IKn K' F' := by
    rcases sc with ⟨z1, z2⟩ | ⟨z1, z2, z3⟩
    · refine IKn_f c0.2 (by rw [z2]) (by rw [z2]) (by rw [z2]) (by rw [z2]) (fun y k y0 y1 hk => ?_)
      by_cases e : y = q ∧ k = 9
      · rw [e.1, e.2, e9, z1]
      · exact f6 y k y1 (by first | decide | omega)
    · have o := c0.2
      have k5 : K'.2 5 = K.2 5 + 1 := by rw [z3]; show zinN K.2 5 5 = K.2 5 + 1; rw [zinN_v, if_pos rfl]
      have g := ngk_o (k := 9) (K := K) (K' := K') (q := q) (F := F) (F' := F') q6 o.1 q0 z1 (by rw [e9]; exact sb.1) (fun y y0 y1 n => f6 y 9 y1 (by first | decide | omega))
      unfold IKn at *
      rw [ngk_e (k := 8) (K' := K') (F' := F') q6 (fun y y0 y1 => f6 y 8 y1 (by first | decide | omega)), ngk_e (k := 12) (K' := K') (F' := F') q6 (fun y y0 y1 => f6 y 12 y1 (by first | decide | omega)), q6, k5, kc 2 (by decide), kc 9 (by decide)]
      omega
  refine IU_f hU kn (kc 2 (by decide)) (kc 9 (by decide)) (fun l _ hl => ⟨Or.inl (f 2 l 0 hl (by first | decide | omega) (by first | decide | omega)), f 2 l 4 hl (by first | decide | omega) (by first | decide | omega), fun k x => b 2 l k x hl (by first | decide | omega)⟩) (fun x x0 x1 => ?_) (fun t _ ht => ⟨fun k => f 9 t k ht (by first | decide | omega) (by first | decide | omega), fun k x => b 9 t k x ht (by first | decide | omega)⟩) (fun y _ y1 => Or.inr ⟨by rw [← q6]; exact y1, f6 y 13 (by rw [← q6]; exact y1) (by first | decide | omega), f6 y 12 (by rw [← q6]; exact y1) (by first | decide | omega)⟩) (fun i i0 i1 z => ?_) (fun k x hk => m 14 0 k x (by first | decide | omega) (by first | decide | omega))
  · by_cases e : x = s
    · rw [e]
      by_cases o : s < K.2 5
      · refine PXu_z c0.1 (hU5 s sb.1 o) (fun k hk => ?_)
        rcases pu k hk with z | z
        · exact Or.inl z
        · exact Or.inr z.2
      · have n : ∀ k, k = 2 ∨ k = 3 ∨ k = 11 ∨ k = 12 ∨ k = 13 → F' 5 s k = 0 := fun k hk => by
          rcases pu k hk with z | z
          · exact z
          · exact absurd z.1 o
        have c00 := c0.1
        unfold PXu
        rw [n 2 (by first | decide | omega), n 3 (by first | decide | omega), n 11 (by first | decide | omega), n 12 (by first | decide | omega), n 13 (by first | decide | omega)]
        omega
    · have l : x < K.2 5 := by
        rcases k5' x x1 with z | z
        · exact z
        · exact absurd z e
      exact PXu_e (hU5 x x0 l) (fun k _ => f 5 x k l (by first | decide | omega) (by first | decide | omega))
  · by_cases e : i = v
    · rw [e] at z ⊢
      rcases pv with pv | pv
      · exact PMu_0 c0.1 pv
      · rw [pv 53 (Or.inl rfl)] at z
        exact PMu_e (hUm v (by first | decide | omega) (by first | decide | omega) z) (fun k k0 k1 => pv k (Or.inr ⟨k0, k1⟩))
    · rw [g 13 i 53 (by first | decide | omega) (by first | decide | omega)] at z
      exact PMu_e (hUm i i0 i1 z) (fun k k0 k1 => g 13 i k (by first | decide | omega) (by first | decide | omega))
theorem p_perform {Km : Nat} (a1 : Int) (h1 : r32 a1) {K : zK} {F Fm : zF} {B Bm : zB} (h : IV cc Km K F B Fm Bm) : ∃ r1 F1 B1 K1 r2 F2 B2, f_S_perform K 0 a1 F B = some (r1, F1, B1, K1) ∧ f_M_perform Km a1 Fm Bm = some (r2, F2, B2) ∧ IV cc Km K1 F1 B1 F2 B2 := by
  have hI := h
  obtain ⟨p, p0, p1, w, w0, w1, hE, hW, hO, h7, hX, hK⟩ := h
  have hA := hE.1.1
  obtain ⟨n1, n2, n3, n4, n5, n6⟩ := hE.1.2.2.2.2.1
  have hWw := hE.1.2.2.2.2.2.1
  have s0 := hE.1.2.2.2.2.2.2.2.2.2.1
  have s1 := hE.1.2.2.2.2.2.2.2.2.2.2
  have h12 : 0 < K.2 12 := by have := hA.2.2; omega
  have out : f_S_pieceAt K 0 a1 F B = some (-1, F, B) ∨ (∃ q, q < 0 ∧ f_S_pieceAt K 0 a1 F B = some (q, F, B)) → f_M_piece Km a1 Fm Bm = some (-1, Fm, Bm) → ∃ r1 F1 B1 K1 r2 F2 B2, f_S_perform K 0 a1 F B = some (r1, F1, B1, K1) ∧ f_M_perform Km a1 Fm Bm = some (r2, F2, B2) ∧ IV cc Km K1 F1 B1 F2 B2 := fun c l => by
    obtain ⟨q, q0, c⟩ : ∃ q, q < 0 ∧ f_S_pieceAt K 0 a1 F B = some (q, F, B) := by
      rcases c with c | c
      · exact ⟨-1, (by first | decide | omega), c⟩
      · exact c
    refine ⟨-1, F, B, K, -1, Fm, Bm, ?_, ?_, hI⟩
    · unfold f_S_perform
      rw [if_pos ⟨(by first | decide | omega), h12⟩, c]
      simp only [zbN_s]
      rw [if_pos q0]
    · unfold f_M_perform
      rw [l, zb_s, if_pos (by decide)]
  by_cases z : a1 < 0 ∨ 2 ≤ a1
  · exact out (Or.inl (C_atx h1 z)) (L_atx h1 z)
  · have hl : 0 ≤ a1 ∧ a1 < 2 := by omega
    have go : ∀ q v, B 12 0 3 a1 = q → Bm 14 0 5 a1 = v → 0 ≤ v ∧ v < 3 → ((q = p0 ∧ v = w0) ∨ (q = p1 ∧ v = w1)) → SLD K q v F B Fm Bm → ∃ r1 F1 B1 K1 r2 F2 B2, f_S_perform K 0 a1 F B = some (r1, F1, B1, K1) ∧ f_M_perform Km a1 Fm Bm = some (r2, F2, B2) ∧ IV cc Km K1 F1 B1 F2 B2 := fun q v eq ev hv hc hs => by
      have x1 := C_at (K := K) (F := F) h12 hl eq
      rcases hs with ⟨q0, m0⟩ | ⟨q0, m0, V, hP, hM, hD⟩
      · have x3 := L_at (Km := Km) (F := Fm) hl ev hv (Or.inl m0)
        rw [if_pos m0] at x3
        exact out (Or.inr ⟨q, q0, x1⟩) x3
      · have x3 := L_at (Km := Km) (F := Fm) hl ev hv (Or.inr m0)
        rw [if_neg (by first | decide | omega)] at x3
        obtain ⟨r, s, F', B', K', Fm', Bm', y1, y2, y3, y4, y5, y6, y7, y8, y9, y10, y11, y12, y13⟩ := P_prf (K := K) (Km := Km) (by first | decide | omega) (by have := hA.2.1; omega) (by have := hA.2.2; omega) hP hE.2.1 hD
        have kc : ∀ c, ¬ c = 5 → K'.2 c = K.2 c := fun c hc => by
          rcases y5 with ⟨_, z⟩ | ⟨_, _, z⟩
          · rw [z]
          · rw [z]; show zinN K.2 5 c = K.2 c; rw [zinN_v, if_neg hc]
        have a3 := hA.2.2
        have hWv : 0 ≤ v ∧ v < 3 := hv
        refine ⟨r, F', B', K', r, Fm', Bm', ?_, ?_, p, p0, p1, w, w0, w1, IE_pf hE hc hP hM m0 y3 y4 y5 y6 y7 y8 y9 y10 y11 (IU_pf hE.2.2.2.2.2.1 y4 y5 y7 y8 y9 y10 y12 y13 hWv hP.1.1 y6), ?_, ?_, ?_, ?_, by rw [y3]; exact hK⟩
        · unfold f_S_perform
          rw [if_pos ⟨(by first | decide | omega), h12⟩, x1]
          simp only [zbN_s]
          rw [if_neg (by first | decide | omega), if_pos hP.1.1, if_pos hP.1.1.2]
          exact y1
        · unfold f_M_perform
          rw [x3, zb_s, if_neg (by first | decide | omega), if_pos hv]
          exact y2
        · have e : F' 0 1 1 = F 0 1 1 := y7 0 1 1 (by first | decide | omega) (by first | decide | omega) (by first | decide | omega)
          refine ⟨by rw [e, y9 14 0 71 (by first | decide | omega) (by first | decide | omega)]; exact hW.1, by rw [e]; exact hW.2.1, fun j j0 j1 => ?_⟩
          rw [e] at j1
          rw [y8 0 1 0 j (by first | decide | omega) (by first | decide | omega), y10 14 0 70 j (by first | decide | omega) (by first | decide | omega)]; exact hW.2.2 j j0 j1
        · exact IOp_g hO (kc 8 (by decide)) (y7 12 0 8 (by first | decide | omega) (by first | decide | omega) (by first | decide | omega)) (y7 12 0 9 (by first | decide | omega) (by first | decide | omega) (by first | decide | omega)) (fun o k ho => y7 8 o k ho (by first | decide | omega) (by first | decide | omega)) (fun o k x ho => y8 8 o k x ho (by first | decide | omega)) (y9 14 0 72 (by first | decide | omega) (by first | decide | omega)) (fun k x hk => y10 14 0 k x (by first | decide | omega) (by first | decide | omega))
        · rw [y7 7 0 4 (by first | decide | omega) (by first | decide | omega) (by first | decide | omega)]; exact h7
        · intro y y0 y1
          rw [y8 12 0 1 y (by first | decide | omega) (by first | decide | omega), y10 14 0 4 y (by first | decide | omega) (by first | decide | omega)]; exact hX y y0 y1
    rcases (show a1 = 0 ∨ a1 = 1 by omega) with e | e
    · exact go p0 w0 (by rw [e]; exact n2) (by rw [e]; exact n5) hWw.2.1 (Or.inl ⟨rfl, rfl⟩) (SLD_of s0 hE.2.2.2.1)
    · exact go p1 w1 (by rw [e]; exact n3) (by rw [e]; exact n6) hWw.2.2.1 (Or.inr ⟨rfl, rfl⟩) (SLD_of s1 hE.2.2.2.2.1)
end
