section
/-! ===== the reference's events learn the places of their tokens ===== -/
theorem L_r70 {K m : Nat} {rec : Int → Int → zF → zB → zO} {u w l1 : Int} {F : zF} (w0 : 0 ≤ w ∧ w < 3) (h6 : F 14 0 6 = w) (u0 : 0 ≤ u ∧ u < 4) (m1 : m ≤ 200) : ∀ (r n k : Nat) {B : zB}, k + r = m → r < n → B 13 w 12 u = m → (∀ i : Nat, k ≤ i → i < m → 0 ≤ B 13 w 20 (1000 * u + i) ∧ B 13 w 20 (1000 * u + i) ≤ 3000) → ∃ B', f_M_read_70 rec K n k u l1 F B = rec (u + 1) l1 F B' ∧ (∀ i : Nat, k ≤ i → i < m → B' 13 w 20 (1000 * u + i) = B 14 0 8 (B 13 w 20 (1000 * u + i))) ∧ (∀ c y j x, ¬ (c = 13 ∧ y = w ∧ j = 20 ∧ 1000 * u + k ≤ x ∧ x < 1000 * u + m) → B' c y j x = B c y j x) := by
  intro r
  induction r with
  | zero =>
    intro n k B kr hn h12 ht
    obtain ⟨n, rfl⟩ : ∃ j, n = j + 1 := ⟨n - 1, by omega⟩
    have rk : r32 (k : Int) := by unfold r32; omega
    have rm : r32 (m : Int) := by unfold r32; omega
    rw [f_M_read_70, h6, if_pos w0, if_pos u0, if_pos rk, h12, if_pos rm, if_pos (by omega)]
    exact ⟨B, rfl, fun i a b => by omega, fun _ _ _ _ _ => rfl⟩
  | succ r ih =>
    intro n k B kr hn h12 ht
    obtain ⟨n, rfl⟩ : ∃ j, n = j + 1 := ⟨n - 1, by omega⟩
    have rk : r32 (k : Int) := by unfold r32; omega
    have rm : r32 (m : Int) := by unfold r32; omega
    have tk := ht k (Nat.le_refl _) (by omega)
    rw [f_M_read_70, h6, if_pos w0, if_pos u0, if_pos rk, h12, if_pos rm, if_neg (by omega), if_pos (by omega), if_pos (by omega)]
    generalize hC : zup4 B 13 w 20 (1000 * u + k) (B 14 0 8 (B 13 w 20 (1000 * u + k))) = C
    have cn : ∀ c y j x, ¬ (c = 13 ∧ y = w ∧ j = 20 ∧ x = 1000 * u + k) → C c y j x = B c y j x := fun c y j x hh => by rw [← hC, zup4_v, if_neg hh]
    have cv : C 13 w 20 (1000 * u + k) = B 14 0 8 (B 13 w 20 (1000 * u + k)) := by rw [← hC, zup4_v, if_pos (by omega)]
    obtain ⟨B', g1, g2, g3⟩ := ih n (k + 1) (B := C) (by omega) (by omega) (by rw [cn 13 w 12 u (by omega)]; exact h12) (fun i a b => by rw [cn 13 w 20 _ (by omega)]; exact ht i (by omega) b)
    rw [show ((k + 1 : Nat) : Int) = (k : Int) + 1 by omega] at g1
    refine ⟨B', g1, fun i a b => ?_, fun c y j x hh => by rw [g3 c y j x (by omega), cn c y j x (by omega)]⟩
    by_cases e : i = k
    · rw [e, g3 13 w 20 _ (by omega), cv]
    · rw [g2 i (by omega) b, cn 14 0 8 _ (by omega), cn 13 w 20 _ (by omega)]
end
