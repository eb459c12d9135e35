section
/-! ===== where brackets stand: places outside them are multiples of a 128th; the notes of an event in a bracket ===== -/
theorem run_s {f : Nat → Int} : ∀ (i : Nat), ∃ s : Nat, s ≤ i ∧ (∀ t : Nat, s ≤ t → t ≤ i → f t = f i) ∧ (s = 0 ∨ ∃ s' : Nat, s = s' + 1 ∧ ¬ f s' = f i) := by
  intro i
  induction i with
  | zero => exact ⟨0, Nat.le_refl _, fun t _ b => by rw [show t = 0 by omega], Or.inl rfl⟩
  | succ i ih =>
    by_cases c : f i = f (i + 1)
    · obtain ⟨s, s0, s1, s2⟩ := ih
      refine ⟨s, by omega, fun t a b => ?_, ?_⟩
      · by_cases e : t = i + 1
        · rw [e]
        · rw [s1 t a (by omega), c]
      · rcases s2 with h | ⟨s', h1, h2⟩
        · exact Or.inl h
        · exact Or.inr ⟨s', h1, by rw [← c]; exact h2⟩
    · exact ⟨i + 1, Nat.le_refl _, fun t a b => by rw [show t = i + 1 by omega], Or.inr ⟨i, rfl, c⟩⟩
theorem BS_all {q bar : Int} {m : Nat} {g : Int → Int} {F : zF} {B : zB} (hb : 0 < bar) (hg : ∀ j : Int, 0 ≤ j → j < m → 1 ≤ g j) (h0 : ∀ i : Nat, i < m → F 1 (B 4 q 5 i) 5 = 0 → g i % 6350400 = 0) (h : ∀ i : Nat, i < m → BSk q m bar g F B i) : (∀ i : Nat, i ≤ m → (i = m ∨ F 1 (B 4 q 5 i) 5 = 0) → sumZ g i % 6350400 = 0) ∧ (∀ i : Nat, i < m → ¬ F 1 (B 4 q 5 i) 5 = 0 → sumZ g (i + 1) ≤ (sumZ g i / bar + 1) * bar) := by
  have mono : ∀ a b : Nat, a ≤ b → b ≤ m → sumZ g a ≤ sumZ g b := fun a b h1 h2 => by
    have := sumZ_m (m := b) (fun j p r => hg j p (by omega)) (b - a) a (by omega)
    omega
  have nn := sumZ_0 hg
  -- a bracket's first event and its end
  have run : ∀ i : Nat, i < m → ¬ F 1 (B 4 q 5 i) 5 = 0 → ∃ s j : Nat, s ≤ i ∧ i < j ∧ j ≤ m ∧ (∀ t : Nat, s ≤ t → t < j → F 1 (B 4 q 5 t) 5 = F 1 (B 4 q 5 i) 5) ∧ (s = 0 ∨ ∃ s' : Nat, s = s' + 1 ∧ ¬ F 1 (B 4 q 5 s') 5 = F 1 (B 4 q 5 i) 5) ∧ (j = m ∨ ¬ F 1 (B 4 q 5 j) 5 = F 1 (B 4 q 5 i) 5) ∧ sumZ g j ≤ (sumZ g s / bar + 1) * bar ∧ (sumZ g j - sumZ g s) % 6350400 = 0 := fun i hi hz => by
    obtain ⟨s, s0, s1, s2⟩ := run_s (f := fun t => F 1 (B 4 q 5 t) 5) i
    have es := s1 s (Nat.le_refl _) s0
    have es' : F 1 (B 4 q 5 s) 5 = F 1 (B 4 q 5 i) 5 := es
    rcases h s (by omega) with y | ⟨s', y1, y2⟩ | ⟨j, j0, j1, j2, j3, j4, j5⟩
    · exact absurd (by rw [← es']; exact y) hz
    · rcases s2 with z | ⟨s'', z1, z2⟩
      · omega
      · exfalso
        apply z2
        show F 1 (B 4 q 5 s'') 5 = F 1 (B 4 q 5 i) 5
        rw [show s'' = s' by omega, y2, es']
    · have ij : i < j := by
        rcases Nat.lt_or_ge i j with z | z
        · exact z
        · exfalso
          rcases j3 with w | w
          · omega
          · exact w (by rw [es']; exact s1 j (by omega) z)
      refine ⟨s, j, s0, ij, j1, fun t a b => by rw [j2 t a b, es'], s2, ?_, j4, j5⟩
      rcases j3 with w | w
      · exact Or.inl w
      · exact Or.inr (fun e => w (by rw [es']; exact e))
  have A : ∀ (n i : Nat), i ≤ n → i ≤ m → (i = 0 ∨ i = m ∨ F 1 (B 4 q 5 i) 5 = 0 ∨ ∃ i' : Nat, i = i' + 1 ∧ ¬ F 1 (B 4 q 5 i') 5 = F 1 (B 4 q 5 i) 5) → sumZ g i % 6350400 = 0 := by
    intro n
    induction n with
    | zero => intro i hi _ _; rw [show i = 0 by omega]; rfl
    | succ n ih =>
      intro i hi im hb'
      by_cases i0 : i = 0
      · rw [i0]; rfl
      obtain ⟨k, rfl⟩ : ∃ k, i = k + 1 := ⟨i - 1, by omega⟩
      by_cases z : F 1 (B 4 q 5 k) 5 = 0
      · have a := ih k (by omega) (by omega) (Or.inr (Or.inr (Or.inl z)))
        have b := h0 k (by omega) z
        rw [sumZ]
        omega
      · obtain ⟨s, j, r0, r1, r2, r3, r4, r5, r6, r7⟩ := run k (by omega) z
        have js : j = k + 1 := by
          rcases Nat.lt_or_ge (k + 1) j with y | y
          · exfalso
            have e := r3 (k + 1) (by omega) y
            rcases hb' with t | t | t | ⟨i', t1, t2⟩
            · omega
            · omega
            · exact z (by rw [← e]; exact t)
            · exact t2 (by rw [show i' = k by omega]; exact e.symm)
          · omega
        have a : sumZ g s % 6350400 = 0 := by
          refine ih s (by omega) (by omega) ?_
          rcases r4 with t | ⟨s', t1, t2⟩
          · exact Or.inl t
          · exact Or.inr (Or.inr (Or.inr ⟨s', t1, fun e => t2 (by rw [e]; exact r3 s (Nat.le_refl _) (by omega))⟩))
        rw [js] at r7
        omega
  constructor
  · intro i im hi
    exact A i i (Nat.le_refl _) im (hi.elim (fun t => Or.inr (Or.inl t)) (fun t => Or.inr (Or.inr (Or.inl t))))
  · intro i im hz
    obtain ⟨s, j, r0, r1, r2, r3, r4, r5, r6, r7⟩ := run i im hz
    have m1 := mono (i + 1) j (by omega) r2
    have m2 := mono s i r0 (by omega)
    have m3 : sumZ g s / bar ≤ sumZ g i / bar := Int.ediv_le_ediv hb m2
    have m4 : (sumZ g s / bar + 1) * bar ≤ (sumZ g i / bar + 1) * bar := Int.mul_le_mul_of_nonneg_right (by omega) (by omega)
    omega
end
