section
/-! ===== the same, for all voices ===== -/
theorem L_r57 {K : Nat} {w V l1 : Int} {F : zF} (hK : 3002 ≤ K) (w0 : 0 ≤ w ∧ w < 3) (h6 : F 14 0 6 = w) (hV : F 13 w 1 = V) (V4 : V ≤ 4) : ∀ (r n : Nat) {u : Int} {B : zB}, u + r = V → 0 ≤ u → r < n → (∀ t, u ≤ t → t < V → ∃ m : Nat, B 13 w 12 t = m ∧ m ≤ 200 ∧ ∀ i : Nat, i < m → 0 ≤ B 13 w 20 (1000 * t + i) ∧ B 13 w 20 (1000 * t + i) ≤ 3000) → ∃ B' n', 0 < n' ∧ f_M_read_57 K n u l1 F B = f_M_read_57 K n' V l1 F B' ∧ (∀ (t : Int) (m i : Nat), u ≤ t → t < V → B 13 w 12 t = m → i < m → B' 13 w 20 (1000 * t + i) = B 14 0 8 (B 13 w 20 (1000 * t + i))) ∧ (∀ c y j x, ¬ (c = 13 ∧ y = w ∧ j = 20 ∧ 1000 * u ≤ x) → B' c y j x = B c y j x) := by
  intro r
  induction r with
  | zero =>
    intro n u B ur u0 hn ht
    rw [show u = V by omega]
    exact ⟨B, n, by omega, rfl, fun t m i a b => by omega, fun _ _ _ _ _ => rfl⟩
  | succ r ih =>
    intro n u B ur u0 hn ht
    obtain ⟨n, rfl⟩ : ∃ j, n = j + 1 := ⟨n - 1, by omega⟩
    have ru : r32 u := by unfold r32; omega
    have rV : r32 V := by unfold r32; omega
    obtain ⟨m, e12, m1, hb⟩ := ht u (Int.le_refl _) (by omega)
    obtain ⟨C, g1, g2, g3⟩ := L_r70 (K := K) (rec := f_M_read_57 K n) (l1 := l1) (F := F) w0 h6 (by omega) m1 m K 0 (B := B) (by omega) (by omega) e12 (fun i _ b => hb i b)
    rw [f_M_read_57, h6, if_pos w0, if_pos ru, hV, if_pos rV, if_neg (by omega)]
    have g1' : f_M_read_70 (f_M_read_57 K n) K K 0 u l1 F B = f_M_read_57 K n (u + 1) l1 F C := g1
    rw [g1']
    obtain ⟨B', n', n0, k1, k2, k3⟩ := ih n (u := u + 1) (B := C) (by omega) (by omega) (by omega) (fun t a b => by
      obtain ⟨m', x1, x2, x3⟩ := ht t (by omega) b
      refine ⟨m', by rw [g3 13 w 12 t (by omega)]; exact x1, x2, fun i hi => ?_⟩
      rw [g3 13 w 20 _ (by omega)]
      exact x3 i hi)
    refine ⟨B', n', n0, k1, fun t m' i a b c hi => ?_, fun c y j x hh => by rw [k3 c y j x (by omega), g3 c y j x (by omega)]⟩
    by_cases e : t = u
    · subst e
      have em : m' = m := by omega
      subst em
      have kf : B' 13 w 20 (1000 * t + i) = C 13 w 20 (1000 * t + i) := by
        exact k3 13 w 20 _ (by omega)
      rw [kf]
      exact g2 i (by omega) hi
    · obtain ⟨m'', x1, x2, x3⟩ := ht t (by omega) b
      rw [k2 t m' i (by omega) b (by rw [g3 13 w 12 t (by omega)]; exact c) hi, g3 13 w 20 _ (by omega), g3 14 0 8 _ (by omega)]
end
