section
/-! ===== a call that makes or fills an object of lines or of study keeps the invariant ===== -/
variable {cc : Int}
theorem PD_e2 {K K' : zK} {V p w : Int} {F F' : zF} {B B' : zB} {Fm Fm' : zF} {Bm Bm' : zB} (h : PD K V p w F B Fm Bm) (hk : K.2 5 ≤ K'.2 5) (f6 : ∀ k, 9 ≤ k → k ≤ 11 → F' 6 p k = F 6 p k) (f5 : 0 ≤ F 6 p 9 → F' 5 (F 6 p 9) = F 5 (F 6 p 9)) (b5 : 0 ≤ F 6 p 9 → B' 5 (F 6 p 9) = B 5 (F 6 p 9)) (fm : ∀ k, k ≤ 7 ∨ k = 53 ∨ k = 54 ∨ k = 60 ∨ k = 65 → Fm' 13 w k = Fm 13 w k) (bm : ∀ k x, k ≤ 35 ∨ (55 ≤ k ∧ k ≤ 64) → Bm' 13 w k x = Bm 13 w k x) : PD K' V p w F' B' Fm' Bm' := by
  obtain ⟨h1, h2, h3, h4, h5, h6, h7⟩ := h
  have e9 := f6 9 (by first | decide | omega) (by first | decide | omega)
  have e10 := f6 10 (by first | decide | omega) (by first | decide | omega)
  have e11 := f6 11 (by first | decide | omega) (by first | decide | omega)
  unfold PD
  rw [e9, e10, e11, fm 53 (by first | decide | omega)]
  refine ⟨h1, h2, (by first | decide | omega), fun z => ?_, fun z => ?_, fun z => ?_, h7⟩
  · have := h4 z
    unfold rwS at *
    rw [f5 z]; exact this
  · obtain ⟨z0, sd⟩ := h5 z
    exact ⟨z0, SDR_e sd ⟨by rw [f5 z0], by rw [f5 z0]⟩ (fun k x _ => by rw [b5 z0]) (fun k a b => fm k (by first | decide | omega)) (fun k x hk => bm k x (by first | decide | omega))⟩
  · obtain ⟨z1, c, hc⟩ := h6 z
    have z0 := (h5 z1).1
    exact ⟨z1, c, PFD_e hc (f5 z0) (b5 z0) (fun k hk => fm k (by first | decide | omega)) (fun k x h0 h1 => bm k x (by first | decide | omega))⟩
theorem IE_ob {cd : Int} {c0 : Nat} {kk' : Nat} {K K' : zK} {Km : Nat} {p p0 p1 w w0 w1 q v s V : Int} {F F' : zF} {B B' : zB} {Fm Fm' : zF} {Bm Bm' : zB} (h : IE cc K Km p p0 p1 w w0 w1 F B Fm Bm) (hq : (q = p0 ∧ v = w0) ∨ (q = p1 ∧ v = w1)) (hP : PK K V q v F B Fm Bm) (hM : MK V v Fm Bm) (m0 : Fm 13 v 0 = 1) (hc0 : (c0 = 2 ∧ kk' = 8) ∨ (c0 = 9 ∧ kk' = 12)) (k1 : K'.1 = K.1) (sb : 0 ≤ s ∧ s < K'.2 c0) (sc : (s = F 6 q kk' ∧ K' = K) ∨ (F 6 q kk' < 0 ∧ s = K.2 c0 ∧ K' = (K.1, zinN K.2 c0))) (e9 : F' 6 q kk' = s) (f : ∀ c y k, y < K.2 c → ¬ (c = 6 ∧ y = q ∧ (k = kk' ∨ k = 13)) → ¬ (c = c0 ∧ y = s) → F' c y k = F c y k) (b : ∀ c y k x, y < K.2 c → ¬ (c = c0 ∧ y = s) → B' c y k x = B c y k x) (g : ∀ c y k, ¬ (c = 14 ∧ y = 0 ∧ k ≤ 1) → ¬ (c = 13 ∧ y = v ∧ (k = 47 ∨ k = 48)) → Fm' c y k = Fm c y k) (m : ∀ c y k x, ¬ (c = 14 ∧ y = 0 ∧ (k = 59 ∨ k = 60)) → ¬ (c = 13 ∧ y = v ∧ 49 ≤ k ∧ k ≤ 52) → Bm' c y k x = Bm c y k x) (hU' : IU cd K' F' B' Fm' Bm') (hL' : LNk q v Fm' Bm') : IE cd K' Km p p0 p1 w w0 w1 F' B' Fm' Bm' := by
  obtain ⟨⟨⟨a1, a2, a3⟩, hB, ⟨d1, d2, d3, d4, d5, d6, d7⟩, hT, ⟨n1, n2, n3, n4, n5, n6⟩, hW, hQ, hG, hF, s0, s1⟩, t61, hS, e0, e1, hU, l0, l1⟩ := h
  have hq0 := hP.1.1
  have kc : ∀ c, ¬ c = c0 → K'.2 c = K.2 c := fun c hc => by
    rcases sc with ⟨_, z⟩ | ⟨_, _, z⟩
    · rw [z]
    · rw [z]; show zinN K.2 c0 c = K.2 c; rw [zinN_v, if_neg hc]
  have k5 : K.2 c0 ≤ K'.2 c0 := by
    rcases sc with ⟨_, z⟩ | ⟨_, _, z⟩
    · rw [z]; exact Int.le_refl _
    · rw [z]; show K.2 c0 ≤ zinN K.2 c0 c0; rw [zinN_v, if_pos rfl]; omega
  have kk : ∀ c, K.2 c ≤ K'.2 c := fun c => by
    by_cases z : c = c0
    · rw [z]; exact k5
    · rw [kc c z]; exact Int.le_refl _
  have f12 : ∀ k, F' 12 0 k = F 12 0 k := fun k => f 12 0 k (by first | decide | omega) (by first | decide | omega) (by first | decide | omega)
  have f3 : ∀ k, F' 3 0 k = F 3 0 k := fun k => f 3 0 k (by first | decide | omega) (by first | decide | omega) (by first | decide | omega)
  have f6 : ∀ y k, y < K.2 6 → ¬ (y = q ∧ (k = kk' ∨ k = 13)) → F' 6 y k = F 6 y k := fun y k hy n => f 6 y k hy (by first | decide | omega) (by first | decide | omega)
  have f4 : ∀ y k, y < K.2 4 → F' 4 y k = F 4 y k := fun y k hy => f 4 y k hy (by first | decide | omega) (by first | decide | omega)
  have b4 : ∀ y k x, y < K.2 4 → B' 4 y k x = B 4 y k x := fun y k x hy => b 4 y k x hy (by first | decide | omega)
  have b6 : ∀ y k x, y < K.2 6 → B' 6 y k x = B 6 y k x := fun y k x hy => b 6 y k x hy (by first | decide | omega)
  have q1 := kc 1 (by first | decide | omega)
  have q4 := kc 4 (by first | decide | omega)
  have q6 := kc 6 (by first | decide | omega)
  have gs : GS K' B' := by
    have := GS_B d1 (B' := B') (fun p v _ z => b6 p 0 v z) (fun q x _ z => b4 q 5 x z)
    obtain ⟨g1, g2, g3, g4, g5⟩ := this
    refine ⟨fun c hc => ?_, by rw [q6, q4]; exact g2, by rw [q6]; exact g3, by rw [q4, q1]; exact g4, by rw [q4]; exact g5⟩
    have := g1 c hc
    rw [q1, kc c (by first | decide | omega)]
    exact this
  have hi1 : ∀ y i, 0 ≤ y → y < K.2 4 → 0 ≤ i → i < 200 → B 4 y 5 i < K.2 1 := fun y i a b c d => (d1.2.2.2.1 y i a b c d).2
  have hsl : ∀ y u, ¬ u = v → SL K y u F B Fm Bm → SL K' y u F' B' Fm' Bm' := fun y u hu s => SL_e s kk (fun _ hy k hk => f6 y k hy (by first | decide | omega)) (fun _ hy v => b6 y 0 v hy) (fun y k _ hy _ _ _ => ⟨f4 y k hy, fun x => b4 y k x hy⟩) (fun y i k y0 hy _ _ _ i0 i1 => ⟨f 1 _ k (hi1 y i y0 hy i0 i1) (by first | decide | omega) (by first | decide | omega), fun x => b 1 _ k x (hi1 y i y0 hy i0 i1) (by first | decide | omega)⟩) (fun k => g 13 u k (by first | decide | omega) (by first | decide | omega)) (fun k x => m 13 u k x (by first | decide | omega) (by first | decide | omega))
  have hq4 : ∀ u, 0 ≤ u → u < V → (0 ≤ B 6 q 0 u ∧ B 6 q 0 u < K.2 4) := fun u u0 u1 => (hP.2.2 u u0 u1).1.1
  have slq : SL K' q v F' B' Fm' Bm' := by
    refine Or.inr ⟨hq0.1, by rw [g 13 v 0 (by first | decide | omega) (by first | decide | omega)]; exact m0, V, ?_, MK_p hM ⟨g 13 v 7 (by first | decide | omega) (by first | decide | omega), g 13 v 72 (by first | decide | omega) (by first | decide | omega), g 13 v 76 (by first | decide | omega) (by first | decide | omega)⟩ (fun k x hk => m 13 v k x (by first | decide | omega) (by first | decide | omega))⟩
    refine PK_e hP kk (fun k hk => f6 q k hq0.2 (by first | decide | omega)) (by funext u; exact b6 q 0 u hq0.2) (fun u u0 u1 => by funext k; exact f4 _ k (hq4 u u0 u1).2) (fun u u0 u1 => by funext k x; exact b4 _ k x (hq4 u u0 u1).2) (fun u i u0 u1 i0 i1 => ?_) (fun u i u0 u1 i0 i1 => ?_) (fun k hk _ => g 13 v k (by first | decide | omega) (by first | decide | omega)) (fun k x hk => m 13 v k x (by first | decide | omega) (by first | decide | omega))
    · funext k; exact f 1 _ k (hi1 _ i (hq4 u u0 u1).1 (hq4 u u0 u1).2 i0 i1) (by first | decide | omega) (by first | decide | omega)
    · funext k x; exact b 1 _ k x (hi1 _ i (hq4 u u0 u1).1 (hq4 u u0 u1).2 i0 i1) (by first | decide | omega)
  have h5' : K'.2 5 = K.2 5 := kc 5 (by first | decide | omega)
  have hsd : ∀ y u, y < K.2 6 → SDk K y u F B Fm Bm → SDk K' y u F' B' Fm' Bm' := fun y u hy s y0 => by
    have l9 := (hF y y0 hy).2.1
    rw [f6 y 1 hy (by first | decide | omega)]
    refine PD_e2 (s y0) (by first | decide | omega) (fun k _ _ => f6 y k hy (by first | decide | omega)) (fun z => ?_) (fun z => ?_) (fun k hk => g 13 u k (by first | decide | omega) (by first | decide | omega)) (fun k x hk => m 13 u k x (by first | decide | omega) (by first | decide | omega))
    · funext k; exact f 5 _ k l9 (by first | decide | omega) (by first | decide | omega)
    · funext k x; exact b 5 _ k x l9 (by first | decide | omega)
  have m14 : ∀ k, k = 13 ∨ k = 14 ∨ k = 15 ∨ k = 58 ∨ k = 61 → Bm' 14 0 k = Bm 14 0 k := fun k hk => by funext x; exact m 14 0 k x (by first | decide | omega) (by first | decide | omega)
  have ex : ∀ k, (36 ≤ k ∧ k ≤ 46) ∨ 77 ≤ k → ∀ i x, Bm' 13 i k x = Bm 13 i k x := fun k hk i x => m 13 i k x (by first | decide | omega) (by first | decide | omega)
  have fin : (SL K' p0 w0 F' B' Fm' Bm' ∧ SL K' p1 w1 F' B' Fm' Bm') ∧ SDk K' p0 w0 F' B' Fm' Bm' ∧ SDk K' p1 w1 F' B' Fm' Bm' := by
    obtain ⟨⟨z1, z2, z3⟩, z4, z5⟩ := hQ
    rcases hq with ⟨rfl, rfl⟩ | ⟨rfl, rfl⟩
    · exact ⟨⟨slq, hsl p1 w1 (fun e => hW.2.2.2.2.2 e.symm) s1⟩, hsd q v z2 e0, hsd p1 w1 z3 e1⟩
    · exact ⟨⟨hsl p0 w0 hW.2.2.2.2.2 s0, slq⟩, hsd p0 w0 z2 e0, hsd q v z3 e1⟩
  have hT' : IT F' B' Fm' Bm' := by
    obtain ⟨t1, t2, t3, t4, t5⟩ := hT
    have e : F' 0 0 1 = F 0 0 1 := f 0 0 1 (by first | decide | omega) (by first | decide | omega) (by first | decide | omega)
    have eb : ∀ y, B' 0 0 0 y = B 0 0 0 y := fun y => b 0 0 0 y (by first | decide | omega) (by first | decide | omega)
    exact ⟨by rw [e, g 14 0 3 (by first | decide | omega) (by first | decide | omega)]; exact t1, by rw [e]; exact t2, by rw [e]; exact t3, fun y => by rw [eb]; exact t4 y, by funext y; rw [eb, ← t5]; show Bm' 14 0 2 y % 256 = Bm 14 0 2 y % 256; rw [m 14 0 2 y (by first | decide | omega) (by first | decide | omega)]⟩
  have hLL : LNk p0 w0 Fm' Bm' ∧ LNk p1 w1 Fm' Bm' := by
    rcases hq with ⟨rfl, rfl⟩ | ⟨rfl, rfl⟩
    · have n := hW.2.2.2.2.2
      exact ⟨hL', LNk_e l1 (fun k hk => g 13 w1 k (by first | decide | omega) (by first | decide | omega)) (fun k x hk => m 13 w1 k x (by first | decide | omega) (by first | decide | omega))⟩
    · have n := hW.2.2.2.2.2
      exact ⟨LNk_e l0 (fun k hk => g 13 w0 k (by first | decide | omega) (by first | decide | omega)) (fun k x hk => m 13 w0 k x (by first | decide | omega) (by first | decide | omega)), hL'⟩
  have hkk : ∀ y, 0 ≤ y → y < K.2 6 → F 6 y kk' < K.2 c0 := fun y y0 y1 => by
    have := hF y y0 y1
    rcases hc0 with ⟨rfl, rfl⟩ | ⟨rfl, rfl⟩
    · exact this.1
    · exact this.2.2
  refine ⟨⟨⟨by rw [k1]; exact a1, a2, ?_⟩, ?_, ⟨gs, fun j => by rw [b 10 0 5 j (by first | decide | omega) (by first | decide | omega)]; exact d2 j, fun q s h1 h2 h3 h4 => by rw [b4 q 12 s (by first | decide | omega)]; exact d3 q s h1 (by first | decide | omega) h3 h4, ?_, ?_, ?_, ?_⟩, hT', ⟨by rw [f12 7]; exact n1, by rw [b 12 0 3 0 (by first | decide | omega) (by first | decide | omega)]; exact n2, by rw [b 12 0 3 1 (by first | decide | omega) (by first | decide | omega)]; exact n3, by rw [g 14 0 6 (by first | decide | omega) (by first | decide | omega)]; exact n4, by rw [m 14 0 5 0 (by first | decide | omega) (by first | decide | omega)]; exact n5, by rw [m 14 0 5 1 (by first | decide | omega) (by first | decide | omega)]; exact n6⟩, hW, ?_, ?_, ?_, fin.1.1, fin.1.2⟩, ?_, ?_, fin.2.1, fin.2.2, hU', hLL.1, hLL.2⟩
  · have k0 := kk 0
    have k2 := kk 2
    have k3 := kk 3
    have k5' := kk 5
    have k7 := kk 7
    have k8 := kk 8
    have k9 := kk 9
    have k10 := kk 10
    have k11 := kk 11
    have k12 := kk 12
    have e8 := kc 8 (by first | decide | omega)
    omega
  · unfold IB at *
    rw [f12 0, f12 2, f12 4, f12 5, f12 6, f3]; exact hB
  · unfold MW at *
    rw [m14 13 (by first | decide | omega), m14 14 (by first | decide | omega), m14 15 (by first | decide | omega)]; exact d4
  · unfold XS at *
    simp only [m14 58 (by first | decide | omega), ex 36 (by decide), ex 37 (by decide), ex 38 (by decide), ex 39 (by decide), ex 40 (by decide), ex 41 (by decide)]; exact d5
  · unfold XC at *
    simp only [ex 42 (by decide), ex 45 (by decide), ex 46 (by decide)]; exact d6
  · unfold X77 at *
    simp only [ex 77 (by decide), ex 78 (by decide), ex 79 (by decide), ex 80 (by decide)]; exact d7
  · unfold IQp at *
    rw [q6]; exact hQ
  · unfold IG at *
    rw [q6, q4, q1, slE_e (fun _ v => b6 p 0 v hQ.1.1), slE_e (fun _ v => b6 p0 0 v hQ.1.2.1), slE_e (fun _ v => b6 p1 0 v hQ.1.2.2)]; exact hG
  · intro y y0 y1
    have hy : y < K.2 6 := by omega
    have o := hF y y0 hy
    have k2 := kk 2
    have k9 := kk 9
    rw [f6 y 9 hy (by first | decide | omega), h5']
    rcases hc0 with ⟨rfl, rfl⟩ | ⟨rfl, rfl⟩
    · rw [f6 y 12 hy (by first | decide | omega)]
      refine ⟨?_, o.2.1, (by first | decide | omega)⟩
      by_cases z : y = q
      · rw [z, e9]; exact sb.2
      · rw [f6 y 8 hy (by first | decide | omega)]; omega
    · rw [f6 y 8 hy (by first | decide | omega)]
      refine ⟨(by first | decide | omega), o.2.1, ?_⟩
      by_cases z : y = q
      · rw [z, e9]; exact sb.2
      · rw [f6 y 12 hy (by first | decide | omega)]; omega
  · unfold T61 at *
    rw [m14 61 (by first | decide | omega)]; exact t61
  · refine ⟨fun y y0 y1 z => ?_, fun k hk y y' y0 y1 z0 z1 n => ?_⟩
    · have hy : y < K.2 6 := by omega
      rw [f6 y 9 hy (by first | decide | omega)] at z ⊢
      have r := hS.1 y y0 hy z
      have l := (hF y y0 hy).2.1
      unfold rwS at *
      rw [f 5 _ 8 l (by first | decide | omega) (by first | decide | omega), f 5 _ 9 l (by first | decide | omega) (by first | decide | omega)]; exact r
    · have hy : y < K.2 6 := by omega
      have hy' : y' < K.2 6 := by omega
      by_cases ek : k = kk'
      · subst ek
        have o1 := hkk y y0 hy
        have o2 := hkk y' z0 hy'
        by_cases e : y = q
        · rw [e, e9, f6 y' k hy' (by first | decide | omega)]
          intro _ c
          rcases sc with ⟨a, _⟩ | ⟨_, a, _⟩
          · exact hS.2 k hk q y' hq0.1 hq0.2 z0 hy' (by first | decide | omega) (by first | decide | omega) (by first | decide | omega)
          · omega
        · by_cases e' : y' = q
          · rw [e', e9, f6 y k hy (by first | decide | omega)]
            intro z c
            rcases sc with ⟨a, _⟩ | ⟨_, a, _⟩
            · exact hS.2 k hk y q y0 hy hq0.1 hq0.2 e z (by first | decide | omega)
            · omega
          · rw [f6 y k hy (by first | decide | omega), f6 y' k hy' (by first | decide | omega)]
            exact hS.2 k hk y y' y0 hy z0 hy' n
      · rw [f6 y k hy (by first | decide | omega), f6 y' k hy' (by first | decide | omega)]
        exact hS.2 k hk y y' y0 hy z0 hy' n
end
