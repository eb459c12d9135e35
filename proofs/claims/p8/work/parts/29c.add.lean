section
/-! ===== a sound added, both sides ===== -/
def SR (V s j : Int) (B Bm : zB) : Prop := (B 5 s 340 j = Bm 14 0 67 j ∧ 0 ≤ B 5 s 340 j ∧ B 5 s 340 j < 4) ∧ (B 5 s 341 j = Bm 14 0 68 j ∧ 0 ≤ B 5 s 341 j ∧ B 5 s 341 j < 200) ∧ (B 5 s 342 j = Bm 14 0 65 j ∧ 0 ≤ B 5 s 342 j ∧ B 5 s 342 j ≤ 127) ∧ (B 5 s 343 j = Bm 14 0 66 j ∧ 0 ≤ B 5 s 343 j ∧ B 5 s 343 j ≤ 127) ∧ (B 5 s 344 j = Bm 14 0 63 j ∧ 0 ≤ B 5 s 344 j) ∧ (B 5 s 345 j = Bm 14 0 64 j ∧ B 5 s 345 j ≤ 500000) ∧ B 5 s 344 j < B 5 s 345 j ∧ B 5 s 340 j < V
def GA (V s : Int) (F : zF) (B : zB) (Fm : zF) (Bm : zB) : Prop := (F 5 s 1 = 0 ∧ F 5 s 0 = Fm 14 0 62 ∧ 0 ≤ F 5 s 0 ∧ F 5 s 0 ≤ 2000 ∧ ∀ j, 0 ≤ j → j < F 5 s 0 → SR V s j B Bm) ∨ (F 5 s 1 = 1 ∧ F 5 s 0 = 2000 ∧ 2000 < Fm 14 0 62)
/-- what gathering sounds changes -/
def gaF (s : Int) (F F' : zF) : Prop := ∀ c y k, ¬ (c = 5 ∧ y = s ∧ k ≤ 1) → F' c y k = F c y k
def gaB (s : Int) (B B' : zB) : Prop := ∀ c y k x, ¬ (c = 5 ∧ y = s ∧ 340 ≤ k) → B' c y k x = B c y k x
def gaG (F F' : zF) : Prop := ∀ c y k, ¬ (c = 14 ∧ y = 0 ∧ (k ≤ 1 ∨ k = 62)) → F' c y k = F c y k
def gaM (B B' : zB) : Prop := ∀ c y k x, ¬ (c = 14 ∧ y = 0 ∧ 63 ≤ k ∧ k ≤ 68) → B' c y k x = B c y k x
theorem gaF_t {s : Int} {F F1 F2 : zF} (h : gaF s F F1) (h' : gaF s F1 F2) : gaF s F F2 := fun c y k n => by rw [h' c y k n, h c y k n]
theorem gaB_t {s : Int} {B B1 B2 : zB} (h : gaB s B B1) (h' : gaB s B1 B2) : gaB s B B2 := fun c y k x n => by rw [h' c y k x n, h c y k x n]
theorem gaG_t {F F1 F2 : zF} (h : gaG F F1) (h' : gaG F1 F2) : gaG F F2 := fun c y k n => by rw [h' c y k n, h c y k n]
theorem gaM_t {B B1 B2 : zB} (h : gaM B B1) (h' : gaM B1 B2) : gaM B B2 := fun c y k x n => by rw [h' c y k x n, h c y k x n]
theorem GA_g {V s : Int} {F : zF} {B : zB} {Fm Fm' : zF} {Bm : zB} (h : GA V s F B Fm Bm) (e : Fm' 14 0 62 = Fm 14 0 62) : GA V s F B Fm' Bm := by
  unfold GA at *
  rw [e]
  exact h
theorem L_snd {K : Nat} {a b t fo v i : Int} {F : zF} {B : zB} (ab : a < b) (ra : 0 ≤ a) (rb : b ≤ 1000000) (c0 : 0 ≤ F 14 0 62) (c1 : F 14 0 62 ≤ 100000000) : ∃ B', f_M_sound_1 K a b t fo v i F B = some (0, zup3 F 14 0 62 (F 14 0 62 + 1), B') ∧ gaM B B' ∧ (F 14 0 62 < 2000 → (∀ k x, ¬ x = F 14 0 62 → B' 14 0 k x = B 14 0 k x) ∧ B' 14 0 63 (F 14 0 62) = a ∧ B' 14 0 64 (F 14 0 62) = b ∧ B' 14 0 65 (F 14 0 62) = t ∧ B' 14 0 66 (F 14 0 62) = fo ∧ B' 14 0 67 (F 14 0 62) = v ∧ B' 14 0 68 (F 14 0 62) = i) := by
  unfold f_M_sound_1 f_M_sound_1_79
  rw [if_pos (by unfold r32; omega), if_pos (by unfold r32; omega), if_neg (by first | decide | omega), if_pos (by unfold r32; omega)]
  by_cases z : 2000 ≤ F 14 0 62
  · rw [if_pos z]
    exact ⟨B, rfl, fun _ _ _ _ _ => rfl, fun h => (by first | decide | omega)⟩
  · rw [if_neg z, if_pos (by first | decide | omega)]
    refine ⟨_, rfl, fun c y k x n => ?_, fun _ => ⟨fun k x n => ?_, ?_, ?_, ?_, ?_, ?_, ?_⟩⟩
    · rw [zup4_v, if_neg (by first | decide | omega), zup4_v, if_neg (by first | decide | omega), zup4_v, if_neg (by first | decide | omega), zup4_v, if_neg (by first | decide | omega), zup4_v, if_neg (by first | decide | omega), zup4_v, if_neg (by first | decide | omega)]
    · rw [zup4_v, if_neg (by first | decide | omega), zup4_v, if_neg (by first | decide | omega), zup4_v, if_neg (by first | decide | omega), zup4_v, if_neg (by first | decide | omega), zup4_v, if_neg (by first | decide | omega), zup4_v, if_neg (by first | decide | omega)]
    all_goals simp [zup4_v]
theorem P_addS {K : zK} {Km : Nat} {V s v i t e a b : Int} {F : zF} {B : zB} {Fm : zF} {Bm : zB} (hs : 0 ≤ s ∧ s < K.2 5) (he : 0 ≤ e ∧ e < K.2 1) (hl : 0 ≤ F 1 e 8 ∧ F 1 e 8 ≤ 7) (v0 : 0 ≤ v ∧ v < 4) (vV : v < V) (i0 : 0 ≤ i ∧ i < 200) (t0 : 0 ≤ t ∧ t ≤ 127) (a0 : 0 ≤ a) (ab : a < b) (b1 : b ≤ 500000) (c0 : 0 ≤ Fm 14 0 62 ∧ Fm 14 0 62 ≤ 100000000) (h : GA V s F B Fm Bm) : ∃ F' B' Bm', f_Performance_addSound K s v i t e a b F B = some (0, F', B') ∧ f_M_sound_1 Km a b t (foV (F 1 e 7) (F 1 e 8)) v i Fm Bm = some (0, zup3 Fm 14 0 62 (Fm 14 0 62 + 1), Bm') ∧ gaF s F F' ∧ gaB s B B' ∧ gaM Bm Bm' ∧ GA V s F' B' (zup3 Fm 14 0 62 (Fm 14 0 62 + 1)) Bm' := by
  obtain ⟨Bm', m1, m2, m3⟩ := L_snd (K := Km) (t := t) (fo := foV (F 1 e 7) (F 1 e 8)) (v := v) (i := i) (B := Bm) ab a0 (by first | decide | omega) c0.1 c0.2
  have fb := foV_b (m := F 1 e 7) hl
  have z62 : (zup3 Fm 14 0 62 (Fm 14 0 62 + 1)) 14 0 62 = Fm 14 0 62 + 1 := by rw [zup3_v, if_pos (by first | decide | omega)]
  unfold f_Performance_addSound
  rw [if_pos hs]
  rcases h with ⟨g1, g2, g3, g4, g5⟩ | ⟨g1, g2, g3⟩
  · rw [if_pos (by unfold r32; omega)]
    by_cases z : F 5 s 0 < 2000
    · rw [if_pos z, if_pos (by first | decide | omega), C_force he hl, zb_s, if_pos (by first | decide | omega)]
      obtain ⟨n1, n2, n3, n4, n5, n6, n7⟩ := m3 (by first | decide | omega)
      generalize hB' : zup4 (zup4 (zup4 (zup4 (zup4 (zup4 B 5 s 340 (F 5 s 0) v) 5 s 341 (F 5 s 0) i) 5 s 342 (F 5 s 0) t) 5 s 343 (F 5 s 0) (foV (F 1 e 7) (F 1 e 8))) 5 s 344 (F 5 s 0) a) 5 s 345 (F 5 s 0) b = B'
      have bn : ∀ c y k x, ¬ (c = 5 ∧ y = s ∧ 340 ≤ k ∧ k ≤ 345 ∧ x = F 5 s 0) → B' c y k x = B c y k x := fun c y k x n => by rw [← hB', zup4_v, if_neg (by first | decide | omega), zup4_v, if_neg (by first | decide | omega), zup4_v, if_neg (by first | decide | omega), zup4_v, if_neg (by first | decide | omega), zup4_v, if_neg (by first | decide | omega), zup4_v, if_neg (by first | decide | omega)]
      have v0' : B' 5 s 340 (F 5 s 0) = v := by rw [← hB']; simp [zup4_v]
      have v1' : B' 5 s 341 (F 5 s 0) = i := by rw [← hB']; simp [zup4_v]
      have v2' : B' 5 s 342 (F 5 s 0) = t := by rw [← hB']; simp [zup4_v]
      have v3' : B' 5 s 343 (F 5 s 0) = foV (F 1 e 7) (F 1 e 8) := by rw [← hB']; simp [zup4_v]
      have v4' : B' 5 s 344 (F 5 s 0) = a := by rw [← hB']; simp [zup4_v]
      have v5' : B' 5 s 345 (F 5 s 0) = b := by rw [← hB']; simp [zup4_v]
      refine ⟨_, B', Bm', rfl, m1, fun c y k n => by rw [zup3_v, if_neg (by first | decide | omega)], fun c y k x n => bn c y k x (by first | decide | omega), m2, Or.inl ⟨by rw [zup3_v, if_neg (by first | decide | omega)]; exact g1, by rw [zup3_v, if_pos (by first | decide | omega), z62]; omega, by rw [zup3_v, if_pos (by first | decide | omega)]; omega, by rw [zup3_v, if_pos (by first | decide | omega)]; omega, fun j j0 j1 => ?_⟩⟩
      rw [zup3_v, if_pos (by first | decide | omega)] at j1
      by_cases y : j = F 5 s 0
      · unfold SR
        rw [← g2] at n2 n3 n4 n5 n6 n7
        rw [y, v0', v1', v2', v3', v4', v5', n2, n3, n4, n5, n6, n7]
        exact ⟨⟨rfl, v0⟩, ⟨rfl, i0⟩, ⟨rfl, t0⟩, ⟨rfl, fb⟩, ⟨rfl, a0⟩, ⟨rfl, b1⟩, ab, vV⟩
      · have := g5 j j0 (by first | decide | omega)
        unfold SR at this ⊢
        rw [bn 5 s 340 j (by first | decide | omega), bn 5 s 341 j (by first | decide | omega), bn 5 s 342 j (by first | decide | omega), bn 5 s 343 j (by first | decide | omega), bn 5 s 344 j (by first | decide | omega), bn 5 s 345 j (by first | decide | omega), n1 63 j (by first | decide | omega), n1 64 j (by first | decide | omega), n1 65 j (by first | decide | omega), n1 66 j (by first | decide | omega), n1 67 j (by first | decide | omega), n1 68 j (by first | decide | omega)]
        exact this
    · rw [if_neg z]
      exact ⟨_, B, Bm', rfl, m1, fun c y k n => by rw [zup3_v, if_neg (by first | decide | omega)], fun _ _ _ _ _ => rfl, m2, Or.inr ⟨by rw [zup3_v, if_pos (by first | decide | omega)], by rw [zup3_v, if_neg (by first | decide | omega)]; omega, by rw [z62]; omega⟩⟩
  · rw [if_pos (by unfold r32; omega), if_neg (by first | decide | omega)]
    exact ⟨_, B, Bm', rfl, m1, fun c y k n => by rw [zup3_v, if_neg (by first | decide | omega)], fun _ _ _ _ _ => rfl, m2, Or.inr ⟨by rw [zup3_v, if_pos (by first | decide | omega)], by rw [zup3_v, if_neg (by first | decide | omega)]; omega, by rw [z62]; omega⟩⟩
end
