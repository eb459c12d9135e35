section
variable {cc : Int}
/-! ===== the call of read keeps the invariant ===== -/
theorem IE_new {K : zK} {Km : Nat} {p p0 p1 w w0 w1 : Int} {F : zF} {B : zB} {Fm : zF} {Bm : zB} (h : IE cc K Km p p0 p1 w w0 w1 F B Fm Bm) (hp : p < 0) : IE cc (K.1, zinN K.2 6) Km (K.2 6) p0 p1 w w0 w1 (zup3 (zinF F 6 (K.2 6) [0, 0, 0, 0, 0, 0, 0, 0, (-1), (-1), 0, 0, (-1), 0]) 12 0 7 (K.2 6)) (zinB B 6 (K.2 6) (fun k _ => if k = 0 then -1 else 0)) Fm Bm := by
  have hI := IC_new h.1 hp
  obtain ⟨hC, t61, hS, e0, e1, hU, l0, l1⟩ := h
  have hQ := hC.2.2.2.2.2.2.1
  have g6 : 0 ≤ K.2 6 := (hC.2.2.1.1.1 6 (by decide)).1
  have k6' : zinN K.2 6 6 = K.2 6 + 1 := by rw [zinN_v, if_pos rfl]
  have k5' : zinN K.2 6 5 = K.2 5 := by rw [zinN_v, if_neg (by decide)]
  generalize hF1 : zup3 (zinF F 6 (K.2 6) [0, 0, 0, 0, 0, 0, 0, 0, (-1), (-1), 0, 0, (-1), 0]) 12 0 7 (K.2 6) = F1 at hI ⊢
  generalize hB1 : zinB B 6 (K.2 6) (fun k _ => if k = 0 then -1 else 0) = B1 at hI ⊢
  have fn : ∀ c y k, ¬ (c = 6 ∧ y = K.2 6) → ¬ (c = 12 ∧ y = 0 ∧ k = 7) → F1 c y k = F c y k := fun c y k a b => by rw [← hF1, zup3_v, if_neg b, zinF_v, if_neg a]
  have bn : ∀ c y k x, ¬ (c = 6 ∧ y = K.2 6) → B1 c y k x = B c y k x := fun c y k x a => by rw [← hB1, zinB_v, if_neg a]
  have nw : ∀ k, k = 8 ∨ k = 9 ∨ k = 12 → F1 6 (K.2 6) k = -1 := fun k hk => by
    rw [← hF1, zup3_v, if_neg (by first | decide | omega), zinF_v, if_pos ⟨rfl, rfl⟩]
    rcases hk with rfl | rfl | rfl <;> rfl
  have sd : ∀ y u, y < K.2 6 → SDk K y u F B Fm Bm → SDk (K.1, zinN K.2 6) y u F1 B1 Fm Bm := fun y u hy s y0 => by
    rw [fn 6 y 1 (by first | decide | omega) (by first | decide | omega)]
    exact PD_e (s y0) (by show K.2 5 ≤ zinN K.2 6 5; omega) (fun k _ _ => fn 6 y k (by first | decide | omega) (by first | decide | omega)) (fun _ => by funext k; exact fn 5 _ k (by first | decide | omega) (by first | decide | omega)) (fun _ => by funext k x; exact bn 5 _ k x (by first | decide | omega)) (fun _ => rfl) (fun _ _ => rfl)
  refine ⟨hI, t61, ⟨fun y y0 y1 z => ?_, fun k hk y y' y0 y1 z0 z1 n => ?_⟩, sd p0 w0 hQ.1.2.1 e0, sd p1 w1 hQ.1.2.2 e1, ?_, l0, l1⟩
  · have y1 : y < zinN K.2 6 6 := y1
    by_cases e : y = K.2 6
    · rw [e, nw 9 (by first | decide | omega)] at z; omega
    · rw [fn 6 y 9 (by first | decide | omega) (by first | decide | omega)] at z ⊢
      have := hS.1 y y0 (by first | decide | omega) z
      unfold rwS at *
      rw [fn 5 _ 8 (by first | decide | omega) (by first | decide | omega), fn 5 _ 9 (by first | decide | omega) (by first | decide | omega)]; exact this
  · have y1 : y < zinN K.2 6 6 := y1
    have z1 : y' < zinN K.2 6 6 := z1
    by_cases e : y = K.2 6
    · rw [e, nw k hk]; omega
    · rw [fn 6 y k (by first | decide | omega) (by first | decide | omega)]
      by_cases e' : y' = K.2 6
      · rw [e', nw k hk]; omega
      · rw [fn 6 y' k (by first | decide | omega) (by first | decide | omega)]
        exact hS.2 k hk y y' y0 (by first | decide | omega) z0 (by first | decide | omega) n
  · have u0 := hU
    obtain ⟨c0, _, hU5, _, _, hUm, _⟩ := u0
    have k2' : zinN K.2 6 2 = K.2 2 := by rw [zinN_v, if_neg (by decide)]
    have k9' : zinN K.2 6 9 = K.2 9 := by rw [zinN_v, if_neg (by decide)]
    have g6' := hC.2.2.2.2.2.2.2.1.1
    have k62 : K.2 6 ≤ 2 := by
      have s1 : slN p = 1 := by unfold slN; rw [if_pos hp]
      have s2 : 0 ≤ slN p0 := by unfold slN; split <;> omega
      have s3 : 0 ≤ slN p1 := by unfold slN; split <;> omega
      omega
    have kn : IKn (K.1, zinN K.2 6) F1 := by
      have o := c0.2
      unfold IKn at *
      rw [ngk_n (k := 8) (K := K) (K' := (K.1, zinN K.2 6)) (F := F) (F' := F1) g6 k62 k6' (by rw [nw 8 (by first | decide | omega)]; decide) (fun y y0 y1 => fn 6 y 8 (by first | decide | omega) (by first | decide | omega)), ngk_n (k := 9) (K := K) (K' := (K.1, zinN K.2 6)) (F := F) (F' := F1) g6 k62 k6' (by rw [nw 9 (by first | decide | omega)]; decide) (fun y y0 y1 => fn 6 y 9 (by first | decide | omega) (by first | decide | omega)), ngk_n (k := 12) (K := K) (K' := (K.1, zinN K.2 6)) (F := F) (F' := F1) g6 k62 k6' (by rw [nw 12 (by first | decide | omega)]; decide) (fun y y0 y1 => fn 6 y 12 (by first | decide | omega) (by first | decide | omega))]
      show zinN K.2 6 6 ≤ 3 ∧ zinN K.2 6 2 + (ngk 8 K F + 1) ≤ zinN K.2 6 6 ∧ zinN K.2 6 5 + (ngk 9 K F + 1) ≤ zinN K.2 6 6 ∧ zinN K.2 6 9 + (ngk 12 K F + 1) ≤ zinN K.2 6 6
      rw [k6', k2', k5', k9']
      omega
    refine IU_f hU kn k2' k9' (fun l _ _ => ⟨Or.inl (fn 2 l 0 (by first | decide | omega) (by first | decide | omega)), fn 2 l 4 (by first | decide | omega) (by first | decide | omega), fun k x => bn 2 l k x (by first | decide | omega)⟩) (fun s s0 s1 => PXu_e (hU5 s s0 (by rw [← k5']; exact s1)) (fun k _ => fn 5 s k (by first | decide | omega) (by first | decide | omega))) (fun t _ _ => ⟨fun k => fn 9 t k (by first | decide | omega) (by first | decide | omega), fun k x => bn 9 t k x (by first | decide | omega)⟩) (fun y y0 y1 => ?_) hUm (fun _ _ _ => rfl)
    have y1 : y < zinN K.2 6 6 := y1
    by_cases e : y = K.2 6
    · refine Or.inl ?_
      rw [e, ← hF1, zup3_v, if_neg (by first | decide | omega), zinF_v, if_pos ⟨rfl, rfl⟩]
      rfl
    · exact Or.inr ⟨(by first | decide | omega), fn 6 y 13 (by first | decide | omega) (by first | decide | omega), fn 6 y 12 (by first | decide | omega) (by first | decide | omega)⟩
theorem IE_ph {K K' : zK} {Km : Nat} {p p0 p1 w w0 w1 : Int} {F F' : zF} {B B' : zB} {Fm Fm' : zF} {Bm Bm' : zB} (h : IE cc K Km p p0 p1 w w0 w1 F B Fm Bm) (hp : 0 ≤ p) (ph : PhF K K' p w F B Fm Bm F' B' Fm' Bm') (f13 : F' 6 p 13 = 0) (f20 : 0 ≤ F 6 p 8 → F' 2 (F 6 p 8) 0 = 0) : T61 Bm' ∧ IS K' F' ∧ SDk K' p0 w0 F' B' Fm' Bm' ∧ SDk K' p1 w1 F' B' Fm' Bm' ∧ IU cc K' F' B' Fm' Bm' ∧ LNk p0 w0 Fm' Bm' ∧ LNk p1 w1 Fm' Bm' := by
  obtain ⟨hC, t61, hS, e0, e1, hU, l0, l1⟩ := h
  obtain ⟨⟨k1, k2, k3, k4, k5⟩, fF, fB, fS, fM, fN, g1, g2, g3⟩ := ph
  have hW := hC.2.2.2.2.2.1
  have hQ := hC.2.2.2.2.2.2.1
  have hF := hC.2.2.2.2.2.2.2.2.1
  have q6 := k3 6 (by decide)
  have q5 := k3 5 (by decide)
  have f6 : ∀ y k, y < K.2 6 → ¬ (y = p ∧ (1 ≤ k ∧ k ≤ 7 ∨ k = 10 ∨ k = 11 ∨ k = 13)) → F' 6 y k = F 6 y k := fun y k hy n => fF 6 y k hy (by first | decide | omega) (by first | decide | omega) (by first | decide | omega) (by first | decide | omega) (by first | decide | omega) (by first | decide | omega) (by first | decide | omega) (by first | decide | omega)
  have f5 : ∀ y k, y < K.2 5 → F' 5 y k = F 5 y k := fun y k hy => fF 5 y k hy (by first | decide | omega) (by first | decide | omega) (by first | decide | omega) (by first | decide | omega) (by first | decide | omega) (by first | decide | omega) (by first | decide | omega) (by first | decide | omega)
  have b5 : ∀ y k x, y < K.2 5 → B' 5 y k x = B 5 y k x := fun y k x hy => fB 5 y k x hy (by first | decide | omega) (by first | decide | omega) (by first | decide | omega) (by first | decide | omega) (by first | decide | omega) (by first | decide | omega)
  have sd : ∀ y u, y < K.2 6 → (0 ≤ y → ¬ y = p) → ¬ u = w → SDk K y u F B Fm Bm → SDk K' y u F' B' Fm' Bm' := fun y u hy n hu s y0 => by
    have np := n y0
    have l := (hF y y0 hy).2.1
    rw [f6 y 1 hy (by first | decide | omega)]
    exact PD_e (s y0) (by first | decide | omega) (fun k _ _ => f6 y k hy (by first | decide | omega)) (fun _ => by funext k; exact f5 _ k l) (fun _ => by funext k x; exact b5 _ k x l) (fun k => fM 13 u k (by first | decide | omega) (by first | decide | omega)) (fun k x => fN 13 u k x (by first | decide | omega) (by first | decide | omega))
  refine ⟨fun l l0 l1 => by rw [fN 14 0 61 l (by first | decide | omega) (by first | decide | omega)]; exact t61 l l0 l1, ⟨fun y y0 y1 z => ?_, fun k hk y y' y0 y1 z0 z1 n => ?_⟩, sd p0 w0 hQ.1.2.1 (fun _ => (hQ.2.1 hp).1) hW.2.2.2.1 e0, sd p1 w1 hQ.1.2.2 (fun _ => (hQ.2.1 hp).2) hW.2.2.2.2.1 e1, ?_, LNk_e l0 (fun k hk => fM 13 w0 k (by first | decide | omega) (by have := hW.2.2.2.1; omega)) (fun k x hk => fN 13 w0 k x (by first | decide | omega) (by first | decide | omega)), LNk_e l1 (fun k hk => fM 13 w1 k (by first | decide | omega) (by have := hW.2.2.2.2.1; omega)) (fun k x hk => fN 13 w1 k x (by first | decide | omega) (by first | decide | omega))⟩
  · rw [f6 y 9 (by first | decide | omega) (by first | decide | omega)] at z ⊢
    have l := (hF y y0 (by first | decide | omega)).2.1
    have := hS.1 y y0 (by first | decide | omega) z
    unfold rwS at *
    rw [f5 _ 8 l, f5 _ 9 l]; exact this
  · rw [f6 y k (by first | decide | omega) (by first | decide | omega), f6 y' k (by first | decide | omega) (by first | decide | omega)]
    exact hS.2 k hk y y' y0 (by first | decide | omega) z0 (by first | decide | omega) n
  · have u0 := hU
    obtain ⟨c0, _, hU5, _, _, hUm, _⟩ := u0
    refine IU_f hU (IKn_f c0.2 (k3 2 (by decide)) q5 q6 (k3 9 (by decide)) (fun y k y0 y1 hk => f6 y k y1 (by first | decide | omega))) (k3 2 (by decide)) (k3 9 (by decide)) (fun l l0 hl => ⟨?_, fF 2 l 4 hl (by first | decide | omega) (by first | decide | omega) (by first | decide | omega) (by first | decide | omega) (by first | decide | omega) (by first | decide | omega) (by first | decide | omega) (by first | decide | omega), fun k x => fB 2 l k x hl (by first | decide | omega) (by first | decide | omega) (by first | decide | omega) (by first | decide | omega) (by first | decide | omega) (by first | decide | omega)⟩) (fun s s0 s1 => PXu_e (hU5 s s0 (by rw [← q5]; exact s1)) (fun k _ => f5 s k (by rw [← q5]; exact s1))) (fun t _ ht => ⟨fun k => fF 9 t k ht (by first | decide | omega) (by first | decide | omega) (by first | decide | omega) (by first | decide | omega) (by first | decide | omega) (by first | decide | omega) (by first | decide | omega) (by first | decide | omega), fun k x => fB 9 t k x ht (by first | decide | omega) (by first | decide | omega) (by first | decide | omega) (by first | decide | omega) (by first | decide | omega) (by first | decide | omega)⟩) (fun y y0 y1 => ?_) (fun i i0 i1 z => ?_) (fun k x hk => fN 14 0 k x (by first | decide | omega) (by first | decide | omega))
    · by_cases e : l = F 6 p 8
      · rw [e]; exact Or.inr (f20 (by first | decide | omega))
      · exact Or.inl (fF 2 l 0 hl (by first | decide | omega) (by first | decide | omega) (by first | decide | omega) (by first | decide | omega) (by first | decide | omega) (by first | decide | omega) (by first | decide | omega) (by first | decide | omega))
    · by_cases e : y = p
      · rw [e]; exact Or.inl f13
      · exact Or.inr ⟨(by first | decide | omega), f6 y 13 (by first | decide | omega) (by first | decide | omega), f6 y 12 (by first | decide | omega) (by first | decide | omega)⟩
    · rw [fM 13 i 53 (by first | decide | omega) (by first | decide | omega)] at z
      exact PMu_e (hUm i i0 i1 z) (fun k k0 k1 => fM 13 i k (by first | decide | omega) (by first | decide | omega))
/-- a read that ends well: the invariant behind the exchange of places -/
theorem IE_sw {K : zK} {V p q q0 q1 v v0 v1 w wl po wo l1 : Int} {Km : Nat} {F F' : zF} {B B' : zB} {Fm Fm' : zF} {Bm Bm' : zB} (hC : IC K Km q q0 q1 v v0 v1 F' B' Fm' Bm') (hn : (q0 = p ∧ v0 = w ∧ q1 = po ∧ v1 = wo) ∨ (q1 = p ∧ v1 = w ∧ q0 = po ∧ v0 = wo)) (hp : 0 ≤ p ∧ p < K.2 6) (hw : ¬ wo = w ∧ ¬ wo = wl) (t61 : T61 Bm) (hU : IU cc K F B Fm Bm) (lo : LNk po wo Fm Bm) (hS : IS K F) (e9 : F 6 p 9 < K.2 5) (fl : F 6 p 10 = 0 ∧ F 6 p 11 = 0) (so : SDk K po wo F B Fm Bm) (f : ∀ c y k, ¬ (c = 12 ∧ y = 0 ∧ k = 7) → F' c y k = F c y k) (b : ∀ c y k x, ¬ (c = 12 ∧ y = 0 ∧ k = 3) → B' c y k x = B c y k x) (rk : RdK K V p w wl l1 F B Fm Bm Fm' Bm') : IE cc K Km q q0 q1 v v0 v1 F' B' Fm' Bm' := by
  obtain ⟨r1, ⟨r2, r3, r3b, r48, r53, _, _, r65, r66⟩, r4, r5, _, r9, r10⟩ := rk
  have sp : SDk K p w F' B' Fm' Bm' := fun _ => by
    have e : ∀ k, F' 6 p k = F 6 p k := fun k => f 6 p k (by first | decide | omega)
    unfold PD
    rw [e 10, e 11, e 9, fl.1, fl.2]
    refine ⟨Or.inl rfl, Or.inl rfl, e9, fun z => ?_, fun z => absurd z (by decide), fun z => absurd z (by decide), fun _ => r53⟩
    have := hS.1 p hp.1 hp.2 z
    unfold rwS at *
    rw [f 5 _ 8 (by first | decide | omega), f 5 _ 9 (by first | decide | omega)]; exact this
  have so' : SDk K po wo F' B' Fm' Bm' := fun y0 => by
    rw [f 6 po 1 (by first | decide | omega)]
    exact PD_e (so y0) (Int.le_refl _) (fun k _ _ => f 6 po k (by first | decide | omega)) (fun _ => by funext k; exact f 5 _ k (by first | decide | omega)) (fun _ => by funext k x; exact b 5 _ k x (by first | decide | omega)) (fun k => r1 13 wo k (by first | decide | omega) (by first | decide | omega) (by first | decide | omega)) (fun k x => r4 13 wo k x (by first | decide | omega) (by first | decide | omega) (by first | decide | omega))
  refine ⟨hC, fun l l0 l1 => by rw [r4 14 0 61 l (by first | decide | omega) (by first | decide | omega) (by first | decide | omega)]; exact t61 l l0 l1, ⟨fun y y0 y1 z => ?_, fun k hk y y' y0 y1 z0 z1 n => ?_⟩, ?_⟩
  · rw [f 6 y 9 (by first | decide | omega)] at z ⊢
    have := hS.1 y y0 y1 z
    unfold rwS at *
    rw [f 5 _ 8 (by first | decide | omega), f 5 _ 9 (by first | decide | omega)]; exact this
  · rw [f 6 y k (by first | decide | omega), f 6 y' k (by first | decide | omega)]
    exact hS.2 k hk y y' y0 y1 z0 z1 n
  · have lp' : LNk p w Fm' Bm' := fun _ => Or.inl r48
    have lo' : LNk po wo Fm' Bm' := LNk_e lo (fun k hk => r1 13 wo k (by first | decide | omega) (by first | decide | omega) (by first | decide | omega)) (fun k x hk => r4 13 wo k x (by first | decide | omega) (by first | decide | omega) (by first | decide | omega))
    have hU' : IU cc K F' B' Fm' Bm' := by
      have u0 := hU
      obtain ⟨c0, _, hU5, _, _, hUm, _⟩ := u0
      refine IU_f hU (IKn_f c0.2 rfl rfl rfl rfl (fun y k _ _ _ => f 6 y k (by first | decide | omega))) rfl rfl (fun l _ _ => ⟨Or.inl (f 2 l 0 (by first | decide | omega)), f 2 l 4 (by first | decide | omega), fun k x => b 2 l k x (by first | decide | omega)⟩) (fun s s0 s1 => PXu_e (hU5 s s0 s1) (fun k _ => f 5 s k (by first | decide | omega))) (fun t _ _ => ⟨fun k => f 9 t k (by first | decide | omega), fun k x => b 9 t k x (by first | decide | omega)⟩) (fun y _ y1 => Or.inr ⟨y1, f 6 y 13 (by first | decide | omega), f 6 y 12 (by first | decide | omega)⟩) (fun i i0 i1 z => ?_) (fun k x hk => r4 14 0 k x (by first | decide | omega) (by first | decide | omega) (by first | decide | omega))
      by_cases e : i = w
      · rw [e] at z; exact absurd r53 z
      · rw [r1 13 i 53 (by first | decide | omega) (by first | decide | omega) (by first | decide | omega)] at z
        exact PMu_e (hUm i i0 i1 z) (fun k k0 k1 => r1 13 i k (by first | decide | omega) (by first | decide | omega) (by first | decide | omega))
    rcases hn with ⟨rfl, rfl, rfl, rfl⟩ | ⟨rfl, rfl, rfl, rfl⟩
    · exact ⟨sp, so', hU', lp', lo'⟩
    · exact ⟨so', sp, hU', lo', lp'⟩
/-- what stands beside the pieces -/
def IZ (K : zK) (F : zF) (B : zB) (Fm : zF) (Bm : zB) : Prop := WI F B Fm Bm ∧ IOp K F B Fm Bm ∧ F 7 0 4 = 0 ∧ IX B Bm ∧ 60000 ≤ K.1
theorem IZ_f {K K' : zK} {F F' : zF} {B B' : zB} {Fm Fm' : zF} {Bm Bm' : zB} (h : IZ K F B Fm Bm) (k1 : K'.1 = K.1) (k8 : K'.2 8 = K.2 8) (f1 : F' 0 1 1 = F 0 1 1) (f8 : F' 12 0 8 = F 12 0 8) (f9 : F' 12 0 9 = F 12 0 9) (f7 : F' 7 0 4 = F 7 0 4) (f : ∀ o k, o < K.2 8 → F' 8 o k = F 8 o k) (b1 : ∀ x, B' 0 1 0 x = B 0 1 0 x) (b12 : ∀ x, B' 12 0 1 x = B 12 0 1 x) (b : ∀ o k x, o < K.2 8 → B' 8 o k x = B 8 o k x) (g : ∀ k, k = 71 ∨ k = 72 → Fm' 14 0 k = Fm 14 0 k) (m : ∀ k x, k = 4 ∨ k = 70 ∨ k = 73 ∨ (75 ≤ k ∧ k ≤ 81) → Bm' 14 0 k x = Bm 14 0 k x) : IZ K' F' B' Fm' Bm' := by
  obtain ⟨h1, h2, h3, h4, h5⟩ := h
  refine ⟨⟨by rw [f1, g 71 (by first | decide | omega)]; exact h1.1, by rw [f1]; exact h1.2.1, fun j j0 j1 => ?_⟩, IOp_g h2 k8 f8 f9 f b (g 72 (by first | decide | omega)) (fun k x hk => m k x (by first | decide | omega)), by rw [f7]; exact h3, fun y y0 y1 => by rw [b12, m 4 y (by first | decide | omega)]; exact h4 y y0 y1, by rw [k1]; exact h5⟩
  rw [f1] at j1
  rw [b1, m 70 j (by first | decide | omega)]; exact h1.2.2 j j0 j1
theorem p_r29 {K : zK} {Km : Nat} {p p0 p1 w w0 w1 l1 : Int} {F : zF} {B : zB} {Fm : zF} {Bm : zB} (hE : IE cc K Km p p0 p1 w w0 w1 F B Fm Bm) (hZ : IZ K F B Fm Bm) (hp : 0 ≤ p) (l0 : 0 ≤ l1 ∧ l1 < 2) : ∃ r K' F' B' Fm' Bm', f_S_read_29 K 0 l1 F B = some (r, F', B', K') ∧ f_M_read Km l1 Fm Bm = some (r, Fm', Bm') ∧ IV cc Km K' F' B' Fm' Bm' := by
  have h := hE.1
  obtain ⟨hR, hT⟩ := IC_IR h
  obtain ⟨r, K', F3, B3, Fm3, Bm3, ph, z, fl, res⟩ := P_rd29 hR hT hp l0
  have hA := hR.1.2.2
  have k0 : 0 < K.2 0 := by omega
  have hR' := IR_ph hR hp ph
  have hT' := IT_ph hT k0 ph z
  obtain ⟨u1, u2, u3, u4, u5, u6, u7⟩ := IE_ph hE hp ph fl.2.2.1 fl.2.2.2
  have ph' := ph
  obtain ⟨⟨k1, k2, k3, k4, k5⟩, fF, fB, fS, fM, fN, _⟩ := ph'
  have hpl : p < K.2 6 := hR.2.2.2.2.2.1.1.1
  have hZ' : IZ K' F3 B3 Fm3 Bm3 := IZ_f hZ k1 (k3 8 (by decide)) (fF 0 1 1 (by first | decide | omega) (by first | decide | omega) (by first | decide | omega) (by first | decide | omega) (by first | decide | omega) (by first | decide | omega) (by first | decide | omega) (by first | decide | omega) (by first | decide | omega)) (fF 12 0 8 (by first | decide | omega) (by first | decide | omega) (by first | decide | omega) (by first | decide | omega) (by first | decide | omega) (by first | decide | omega) (by first | decide | omega) (by first | decide | omega) (by first | decide | omega)) (fF 12 0 9 (by first | decide | omega) (by first | decide | omega) (by first | decide | omega) (by first | decide | omega) (by first | decide | omega) (by first | decide | omega) (by first | decide | omega) (by first | decide | omega) (by first | decide | omega)) (fF 7 0 4 (by first | decide | omega) (by first | decide | omega) (by first | decide | omega) (by first | decide | omega) (by first | decide | omega) (by first | decide | omega) (by first | decide | omega) (by first | decide | omega) (by first | decide | omega)) (fun o k ho => fF 8 o k ho (by first | decide | omega) (by first | decide | omega) (by first | decide | omega) (by first | decide | omega) (by first | decide | omega) (by first | decide | omega) (by first | decide | omega) (by first | decide | omega)) (fun x => fB 0 1 0 x (by first | decide | omega) (by first | decide | omega) (by first | decide | omega) (by first | decide | omega) (by first | decide | omega) (by first | decide | omega) (by first | decide | omega)) (fun x => fB 12 0 1 x (by first | decide | omega) (by first | decide | omega) (by first | decide | omega) (by first | decide | omega) (by first | decide | omega) (by first | decide | omega) (by first | decide | omega)) (fun o k x ho => fB 8 o k x ho (by first | decide | omega) (by first | decide | omega) (by first | decide | omega) (by first | decide | omega) (by first | decide | omega) (by first | decide | omega)) (fun k hk => fM 14 0 k (by first | decide | omega) (by first | decide | omega)) (fun k x hk => fN 14 0 k x (by first | decide | omega) (by first | decide | omega))
  rcases res with ⟨rz, c, m⟩ | ⟨rfl, c, V, Fm', Bm', m, rk⟩
  · exact ⟨r, K', F3, B3, Fm3, Bm3, c, m, p, p0, p1, w, w0, w1, ⟨IR_IC hR' hT', u1, u2, u3, u4, u5, u6, u7⟩, hZ'⟩
  · have hT2 : IT (zup3 F3 12 0 7 (B3 12 0 3 l1)) (zup4 B3 12 0 3 l1 p) Fm' Bm' := by
      obtain ⟨t1, t2, t3, t4, t5⟩ := hT'
      have e : (zup4 B3 12 0 3 l1 p) 0 0 0 = B3 0 0 0 := by funext x; rw [zup4_v, if_neg (by first | decide | omega)]
      unfold IT
      rw [e, zup3_v, if_neg (by first | decide | omega), rk.1 14 0 3 (by first | decide | omega) (by first | decide | omega) (by first | decide | omega)]
      refine ⟨t1, t2, t3, t4, ?_⟩
      rw [← t5]
      unfold tmB
      funext y
      rw [rk.2.2.1 14 0 2 y (by first | decide | omega) (by first | decide | omega) (by first | decide | omega)]
    have n5 : Bm 14 0 5 0 = w0 ∧ Bm 14 0 5 1 = w1 := ⟨hR.2.2.2.1.2.2.2.2.1, hR.2.2.2.1.2.2.2.2.2⟩
    have nn := hR'.2.2.2.1
    have hW := hR'.2.2.2.2.1
    have hQ := hR'.2.2.2.2.2.1
    have hG := hR'.2.2.2.2.2.2.1
    have hF3 := hR'.2.2.2.2.2.2.2.1
    have hZ2 : ∀ pl, IZ K' (zup3 F3 12 0 7 pl) (zup4 B3 12 0 3 l1 p) Fm' Bm' := fun pl => IZ_f hZ' rfl rfl (by rw [zup3_v, if_neg (by first | decide | omega)]) (by rw [zup3_v, if_neg (by first | decide | omega)]) (by rw [zup3_v, if_neg (by first | decide | omega)]) (by rw [zup3_v, if_neg (by first | decide | omega)]) (fun o k _ => by rw [zup3_v, if_neg (by first | decide | omega)]) (fun x => by rw [zup4_v, if_neg (by first | decide | omega)]) (fun x => by rw [zup4_v, if_neg (by first | decide | omega)]) (fun o k x _ => by rw [zup4_v, if_neg (by first | decide | omega)]) (fun k hk => rk.1 14 0 k (by first | decide | omega) (by first | decide | omega) (by first | decide | omega)) (fun k x hk => rk.2.2.1 14 0 k x (by first | decide | omega) (by first | decide | omega) (by first | decide | omega))
    have pb : 0 ≤ p ∧ p < K'.2 6 := ⟨hp, hQ.1.1⟩
    have fz : ∀ pl c y k, ¬ (c = 12 ∧ y = 0 ∧ k = 7) → (zup3 F3 12 0 7 pl) c y k = F3 c y k := fun pl c y k n => by rw [zup3_v, if_neg n]
    have bz : ∀ c y k x, ¬ (c = 12 ∧ y = 0 ∧ k = 3) → (zup4 B3 12 0 3 l1 p) c y k x = B3 c y k x := fun c y k x n => by rw [zup4_v, if_neg (by first | decide | omega)]
    have : l1 = 0 ∨ l1 = 1 := by omega
    rcases this with rfl | rfl
    · rw [n5.1] at rk
      rw [nn.2.1] at c hT2
      obtain ⟨s1, s2, s3, ⟨m1, m2, m3, m4, m5, m6⟩, s5, s6, s7, s8⟩ := IR_sw (l1 := 0) (lo := 1) (pl := p0) (po := p1) (wl := w0) (wo := w1) hR' hp (Or.inl ⟨rfl, rfl, rfl, rfl, rfl, rfl⟩) rk
      have hC2 : IC K' Km p0 p p1 w0 w w1 (zup3 F3 12 0 7 p0) (zup4 B3 12 0 3 0 p) Fm' Bm' := ⟨s1, s2, s3, hT2, ⟨m1, m2, m3, m4, m5, m6⟩, by unfold IW at *; omega, by unfold IQp at *; omega, by unfold IG at *; rw [s6, s6, s6]; omega, s5, s7, s8⟩
      exact ⟨0, K', _, _, Fm', Bm', c, m, p0, p, p1, w0, w, w1, IE_sw (po := p1) (wo := w1) hC2 (Or.inl ⟨rfl, rfl, rfl, rfl⟩) pb (by unfold IW at hW; omega) u1 u5 u7 u2 (hF3 p hp pb.2).2.1 ⟨fl.1, fl.2.1⟩ u4 (fz p0) bz rk, hZ2 p0⟩
    · rw [n5.2] at rk
      rw [nn.2.2.1] at c hT2
      obtain ⟨s1, s2, s3, ⟨m1, m2, m3, m4, m5, m6⟩, s5, s6, s7, s8⟩ := IR_sw (l1 := 1) (lo := 0) (pl := p1) (po := p0) (wl := w1) (wo := w0) hR' hp (Or.inr ⟨rfl, rfl, rfl, rfl, rfl, rfl⟩) rk
      have hC2 : IC K' Km p1 p0 p w1 w0 w (zup3 F3 12 0 7 p1) (zup4 B3 12 0 3 1 p) Fm' Bm' := ⟨s1, s2, s3, hT2, ⟨m1, m3, m2, m4, m6, m5⟩, by unfold IW at *; omega, by unfold IQp at *; omega, by unfold IG at *; rw [s6, s6, s6]; omega, s5, s8, s7⟩
      exact ⟨0, K', _, _, Fm', Bm', c, m, p1, p0, p, w1, w0, w, IE_sw (po := p0) (wo := w0) hC2 (Or.inr ⟨rfl, rfl, rfl, rfl⟩) pb (by unfold IW at hW; omega) u1 u5 u6 u2 (hF3 p hp pb.2).2.1 ⟨fl.1, fl.2.1⟩ u3 (fz p1) bz rk, hZ2 p1⟩
theorem p_read {Km : Nat} (l1 : Int) (rl : r32 l1) {K : zK} {F Fm : zF} {B Bm : zB} (hV : IV cc Km K F B Fm Bm) : ∃ r1 F1 B1 K1 r2 F2 B2, f_S_read K 0 l1 F B = some (r1, F1, B1, K1) ∧ f_M_read Km l1 Fm Bm = some (r2, F2, B2) ∧ IV cc Km K1 F1 B1 F2 B2 := by
  have hV' := hV
  obtain ⟨p, p0, p1, w, w0, w1, hE, hZ⟩ := hV
  have hZ : IZ K F B Fm Bm := hZ
  have h := hE.1
  by_cases l0 : 0 ≤ l1 ∧ l1 < 2
  · have hA := h.1.2.2
    have n1 := h.2.2.2.2.1.1
    have k12 : 0 ≤ (0 : Int) ∧ (0 : Int) < K.2 12 := ⟨Int.le_refl _, hA.2.2.2.2.2.2.2.2.2⟩
    have g6 : 0 ≤ K.2 6 := (h.2.2.1.1.1 6 (by decide)).1
    have g4 : 0 ≤ K.2 4 := (h.2.2.1.1.1 4 (by decide)).1
    by_cases hp : p < 0
    · have hN := IE_new hE hp
      have hZn : IZ (K.1, zinN K.2 6) (zup3 (zinF F 6 (K.2 6) [0, 0, 0, 0, 0, 0, 0, 0, (-1), (-1), 0, 0, (-1), 0]) 12 0 7 (K.2 6)) (zinB B 6 (K.2 6) (fun k _ => if k = 0 then -1 else 0)) Fm Bm := by
        have fn : ∀ c y k, ¬ c = 6 → ¬ (c = 12 ∧ y = 0 ∧ k = 7) → (zup3 (zinF F 6 (K.2 6) [0, 0, 0, 0, 0, 0, 0, 0, (-1), (-1), 0, 0, (-1), 0]) 12 0 7 (K.2 6)) c y k = F c y k := fun c y k a b => by rw [zup3_v, if_neg b, zinF_v, if_neg (fun q => a q.1)]
        have bn : ∀ c y k x, ¬ c = 6 → (zinB B 6 (K.2 6) (fun k _ => if k = 0 then -1 else 0)) c y k x = B c y k x := fun c y k x a => by rw [zinB_v, if_neg (fun q => a q.1)]
        exact IZ_f hZ rfl (by show zinN K.2 6 8 = K.2 8; rw [zinN_v, if_neg (by decide)]) (fn 0 1 1 (by first | decide | omega) (by first | decide | omega)) (fn 12 0 8 (by first | decide | omega) (by first | decide | omega)) (fn 12 0 9 (by first | decide | omega) (by first | decide | omega)) (fn 7 0 4 (by first | decide | omega) (by first | decide | omega)) (fun o k _ => fn 8 o k (by first | decide | omega) (by first | decide | omega)) (fun x => bn 0 1 0 x (by first | decide | omega)) (fun x => bn 12 0 1 x (by first | decide | omega)) (fun o k x _ => bn 8 o k x (by first | decide | omega)) (fun _ _ => rfl) (fun _ _ _ => rfl)
      obtain ⟨r, K', F', B', Fm', Bm', c, m, hI⟩ := p_r29 (l1 := l1) hN hZn g6 l0
      refine ⟨r, F', B', K', r, Fm', Bm', ?_, m, hI⟩
      have k6' : zinN K.2 6 6 = K.2 6 + 1 := by rw [zinN_v, if_pos rfl]
      have k12' : zinN K.2 6 12 = K.2 12 := by rw [zinN_v, if_neg (by decide)]
      unfold f_S_read f_Piece_init f_S_read_26
      rw [if_pos rl, if_neg (by first | decide | omega), if_pos l0.2, if_pos k12, n1, if_pos hp, if_pos g6, if_pos (by first | decide | omega), if_pos (by first | decide | omega), if_pos (by first | decide | omega), if_pos (by first | decide | omega)]
      simp only [zbM_s]
      rw [if_pos (show 0 ≤ K.2 6 ∧ K.2 6 < zinN K.2 6 6 by omega), if_pos (show 0 ≤ (0 : Int) ∧ (0 : Int) < zinN K.2 6 12 by omega), if_pos (show 0 ≤ (0 : Int) ∧ (0 : Int) < zinN K.2 6 12 by omega), if_pos (show K.2 6 < zinN K.2 6 6 by omega)]
      exact c
    · obtain ⟨r, K', F', B', Fm', Bm', c, m, hI⟩ := p_r29 (l1 := l1) hE hZ (by first | decide | omega) l0
      refine ⟨r, F', B', K', r, Fm', Bm', ?_, m, hI⟩
      unfold f_S_read
      rw [if_pos rl, if_neg (by first | decide | omega), if_pos l0.2, if_pos k12, n1, if_neg hp]
      exact c
  · refine ⟨-1, F, B, K, -1, Fm, Bm, ?_, ?_, hV'⟩
    · unfold f_S_read f_S_read_9
      rw [if_pos rl]
      by_cases a : l1 < 0
      · rw [if_pos a]
      · rw [if_neg a, if_neg (by first | decide | omega)]
    · unfold f_M_read f_M_read_9
      rw [if_pos rl]
      by_cases a : l1 < 0
      · rw [if_pos a]
      · rw [if_neg a, if_neg (by first | decide | omega)]
end
