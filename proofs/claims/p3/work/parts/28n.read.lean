section
/-! ===== read, both sides ===== -/
theorem PhF_1 {K K3 : zK} {p w : Int} {F F2 F3 F4 : zF} {B B3 : zB} {Fm Fm3 : zF} {Bm Bm3 : zB} (h2 : ∀ c y k, ¬ (c = 6 ∧ y = p ∧ (1 ≤ k ∧ k ≤ 7 ∨ k = 10 ∨ k = 11 ∨ k = 13)) → ¬ (c = 2 ∧ y = F 6 p 8 ∧ k = 0) → F2 c y k = F c y k) (f : PF K p w F2 B Fm Bm K3 F3 B3 Fm3 Bm3) (g : GS K3 B3) (r : ∀ q s, 0 ≤ q → q < K.2 4 → 0 ≤ s → s < 63 → r32 (B 4 q 12 s)) (h4 : ∀ c y k, ¬ (c = 0 ∧ y = 0) → F4 c y k = F3 c y k) : PhF K K3 p w F B Fm Bm F4 B3 Fm3 Bm3 := by
  obtain ⟨a1, a2, a3, a4, a5, a6, a7, a8, ⟨a9, a10, a11⟩, _, _⟩ := f
  refine ⟨⟨a1.1, a1.2, a9, a10, a11⟩, fun c y k y1 b1 b2 b3 b4 b5 b6 b7 b8 => ?_, fun c y k x y1 b1 b2 b3 b4 b5 b6 => a3 c y k x y1 b1 b2 b4, a4, fun c i k b1 b2 => a5 c i k (by omega) (by omega), fun c i k x b1 b2 => a6 c i k x (by omega) (by omega), g, a7, fun q s q0 q1 s0 s1 => ?_⟩
  · rw [h4 c y k b1, a2 c y k y1 b2 b3 (by omega) b7, h2 c y k b5 b6]
  · by_cases e : q < K.2 4
    · rw [a3 4 q 12 s e (by omega) (by omega) (by omega)]; exact r q s q0 e s0 s1
    · exact a8 q s (by omega) q1
theorem PhF_2 {K K3 : zK} {p w : Int} {F F3 F1 F' : zF} {B B3 B1 : zB} {Fm Fm3 Fm1 Fm' : zF} {Bm Bm3 Bm1 : zB} (hp : 0 ≤ p ∧ p < K.2 6) (f : PhF K K3 p w F B Fm Bm F3 B3 Fm3 Bm3) (v : VTF p w F3 B3 (zup3 Fm3 14 0 35 0) Bm3 F1 B1 Fm1 Bm1) (g : GS K3 B1) (h1 : ∀ c y k, ¬ (c = 0 ∧ y = 0 ∧ (k = 1 ∨ k = 2)) → ¬ (c = 6 ∧ y = p ∧ k = 7) → F' c y k = F1 c y k) (h2 : ∀ c y j, ¬ (c = 14 ∧ y = 0 ∧ (j ≤ 1 ∨ j = 17 ∨ j = 18)) → Fm' c y j = Fm1 c y j) (k10 : 0 < K.2 10) : PhF K K3 p w F B Fm Bm F' B1 Fm' Bm1 := by
  obtain ⟨⟨k1, k2, k3, k4, k5⟩, fF, fB, fS, fM, fN, g1, g2, g3⟩ := f
  obtain ⟨v1, v2, v3, v4, v5, v6⟩ := v
  have e6 : ∀ u, B1 6 p 0 u = B3 6 p 0 u := fun u => v2 6 p 0 u (by omega) (by omega) (by omega)
  have own : ∀ y, (∃ u, 0 ≤ u ∧ u < 4 ∧ 0 ≤ B3 6 p 0 u ∧ ownE B3 (B3 6 p 0 u) y) → ∃ u, 0 ≤ u ∧ u < 4 ∧ 0 ≤ B1 6 p 0 u ∧ ownE B1 (B1 6 p 0 u) y := fun y ⟨u, u0, u1, u2, u3⟩ => ⟨u, u0, u1, by rw [e6]; exact u2, by rw [e6]; exact (v3 u y u0 u1).mpr u3⟩
  have old : ∀ y, y < K.2 4 → (∃ u, 0 ≤ u ∧ u < 4 ∧ 0 ≤ B3 6 p 0 u ∧ y = B3 6 p 0 u) → ∃ u, 0 ≤ u ∧ u < 4 ∧ y = B 6 p 0 u := fun y hy ⟨u, u0, u1, u2, u3⟩ => by
    rcases fS u u0 u1 with z | z
    · exact ⟨u, u0, u1, by omega⟩
    · omega
  refine ⟨⟨k1, k2, k3, k4, by rw [em_e e6]; exact k5⟩, fun c y k y1 b1 b2 b3 b4 b5 b6 b7 b8 => ?_, fun c y k x y1 b1 b2 b3 b4 b5 b6 => ?_, fun u u0 u1 => by rw [e6]; exact fS u u0 u1, fun c i k b1 b2 => ?_, fun c i k x b1 b2 => ?_, g, fun j => ?_, fun q s q0 q1 s0 s1 => v6 q (fun t t0 t1 => g3 q t q0 q1 t0 t1) s s0 s1⟩
  · rw [h1 c y k (by omega) (by omega), v1 c y k b4 (fun z => b7 ⟨z.1, old y (by have := z.1; subst this; exact y1) z.2.2⟩) (fun z => b8 ⟨z.1, own y z.2⟩), fF c y k y1 b1 b2 b3 b4 b5 b6 b7 (fun z => b8 ⟨z.1, own y z.2⟩)]
  · rw [v2 c y k x b3 (fun z => b5 ⟨z.1, z.2.1, old y (by have := z.1; subst this; exact y1) z.2.2⟩) (fun z => b6 ⟨z.1, own y z.2⟩), fB c y k x y1 b1 b2 b3 b4 b5 (fun z => b6 ⟨z.1, own y z.2⟩)]
  · rw [h2 c i k (by omega), v4 c i k (by omega) (by omega), zup3_v, if_neg (by omega), fM c i k b1 b2]
  · rw [v5 c i k x (by omega) (by omega), fN c i k x b1 b2]
  · rw [v2 10 0 5 j (by omega) (by omega) (by omega)]; exact g2 j
theorem zb_as {x : zO} {t : zF → zB → zO} {k : Int → zF → zB → zO} : zbind x (fun _ F B => zbind (t F B) k) = zbind (zbind x (fun _ F B => t F B)) k := by
  cases x with
  | none => rfl
  | some q => rfl
end
