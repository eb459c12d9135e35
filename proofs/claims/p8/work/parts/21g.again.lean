/-! ===== again, exactly, on both sides ===== -/
theorem L_again_loop {K : Nat} {F : zF} (h0 : 0 ≤ F 14 0 71) (h1 : F 14 0 71 ≤ 3000) : ∀ {n : Nat} {k : Int} {B : zB}, 0 ≤ k → k ≤ F 14 0 71 → F 14 0 71 - k < n → ∃ B', f_M_again_21 K n k F B = some (F 14 0 71, zup3 F 14 0 3 (F 14 0 71), B') ∧ (∀ c i x, ¬ (c = 14 ∧ i = 0 ∧ x = 2) → B' c i x = B c i x) ∧ ∀ y, B' 14 0 2 y = if k ≤ y ∧ y < F 14 0 71 then zi2b (B 14 0 70 y) else B 14 0 2 y := by
  intro n
  induction n with
  | zero => intro k B a b d; omega
  | succ n ih =>
    intro k B a b d
    unfold f_M_again_21
    rw [if_pos (show r32 k from ⟨(by first | decide | omega), (by first | decide | omega)⟩), if_pos (show r32 (F 14 0 71) from ⟨(by first | decide | omega), (by first | decide | omega)⟩)]
    by_cases h : F 14 0 71 ≤ k
    · rw [if_pos h]
      exact ⟨B, rfl, fun _ _ _ _ => rfl, fun y => by rw [if_neg (by first | decide | omega)]⟩
    · rw [if_neg h, if_pos ⟨a, (by first | decide | omega)⟩, if_pos ⟨a, (by first | decide | omega)⟩]
      obtain ⟨B', e1, e2, e3⟩ := ih (k := k + 1) (B := zup4 B 14 0 2 k (zi2b (B 14 0 70 k))) (by first | decide | omega) (by first | decide | omega) (by first | decide | omega)
      refine ⟨B', e1, fun c i x hq => by rw [e2 c i x hq, zup4_ne hq], fun y => ?_⟩
      rw [e3 y, zup4_self, zup4_ne (by decide)]
      unfold zup
      by_cases hy : y = k
      · subst hy
        rw [if_neg (by first | decide | omega), if_pos rfl, if_pos ⟨(by first | decide | omega), (by first | decide | omega)⟩]
      · by_cases hz : k + 1 ≤ y ∧ y < F 14 0 71
        · rw [if_pos hz, if_pos ⟨(by first | decide | omega), (by first | decide | omega)⟩]
        · rw [if_neg hz, if_neg hy, if_neg (by first | decide | omega)]
theorem L_again {K : Nat} {F : zF} {B : zB} (hK : 3002 ≤ K) (h0 : 0 ≤ F 14 0 71) (h1 : F 14 0 71 ≤ 40000) :
    ((F 14 0 71 = 0 ∨ 3000 < F 14 0 71) → f_M_again K F B = some (-1, F, B)) ∧
    (0 < F 14 0 71 → F 14 0 71 ≤ 3000 → ∃ B', f_M_again K F B = some (F 14 0 71, zup3 F 14 0 3 (F 14 0 71), B') ∧ (∀ c i x, ¬ (c = 14 ∧ i = 0 ∧ x = 2) → B' c i x = B c i x) ∧ ∀ y, B' 14 0 2 y = if 0 ≤ y ∧ y < F 14 0 71 then zi2b (B 14 0 70 y) else B 14 0 2 y) := by
  constructor
  · intro h
    unfold f_M_again f_M_again_17
    rw [if_pos (show r32 (F 14 0 71) from ⟨(by first | decide | omega), (by first | decide | omega)⟩)]
    by_cases a : F 14 0 71 = 0
    · rw [if_pos a]
    · rw [if_neg a, if_neg (by first | decide | omega)]
  · intro a b
    unfold f_M_again
    rw [if_pos (show r32 (F 14 0 71) from ⟨(by first | decide | omega), (by first | decide | omega)⟩), if_neg (by first | decide | omega), if_pos b]
    exact L_again_loop h0 b (by first | decide | omega) (by first | decide | omega) (by first | decide | omega)
theorem C_at1 {K : zK} {l : Int} {F : zF} {B : zB} (hK0 : 1 < K.2 0) (h0 : 0 ≤ l) (h1 : l < F 0 1 1) (h2 : F 0 1 1 ≤ 20480) : f_ByteRow_at K 1 l F B = some (B 0 1 0 l, F, B) := by
  have e : (lnC 0 1 0 : Int) = 20480 := rfl
  unfold f_ByteRow_at f_ByteRow_at_22
  rw [if_pos (show r32 l from ⟨(by first | decide | omega), (by first | decide | omega)⟩), if_neg (by first | decide | omega), if_pos ⟨by decide, hK0⟩, if_pos (show r32 (F 0 1 1) from ⟨(by first | decide | omega), (by first | decide | omega)⟩), if_pos h1, e, if_pos ⟨h0, (by first | decide | omega)⟩]
theorem C_again_loop {K : zK} {N : Int} (hK0 : 1 < K.2 0) (hK12 : 0 < K.2 12) (hN : N ≤ 3000) : ∀ {n : Nat} {k : Int} {F : zF} {B : zB}, 0 ≤ k → k ≤ N → F 12 0 0 = 0 → F 12 0 2 = 1 → F 0 1 1 = N → F 0 0 1 = k → N - k < n → ∃ F' B', f_S_again_34 K n k 0 F B = some (N, F', B') ∧ F' 0 0 1 = N ∧ (∀ c i x, ¬ (c = 0 ∧ i = 0 ∧ x = 1) → F' c i x = F c i x) ∧ (∀ c i x, ¬ (c = 0 ∧ i = 0 ∧ x = 0) → B' c i x = B c i x) ∧ ∀ y, B' 0 0 0 y = if k ≤ y ∧ y < N then zand (B 0 1 0 y) 255 else B 0 0 0 y := by
  intro n
  induction n with
  | zero => intro k F B a b t w s z d; omega
  | succ n ih =>
    intro k F B a b t w s z d
    unfold f_S_again_34
    rw [if_pos ⟨by decide, hK12⟩, w, if_pos ⟨by decide, hK0⟩, if_pos (show r32 k from ⟨(by first | decide | omega), (by first | decide | omega)⟩), s, if_pos (show r32 N from ⟨(by first | decide | omega), (by first | decide | omega)⟩), t]
    by_cases h : N ≤ k
    · rw [if_pos h, if_pos ⟨by decide, (by first | decide | omega)⟩]
      refine ⟨F, B, by rw [z, show k = N by omega], (by first | decide | omega), fun _ _ _ _ => rfl, fun _ _ _ _ => rfl, fun y => by rw [if_neg (by first | decide | omega)]⟩
    · rw [if_neg h, if_pos ⟨by decide, (by first | decide | omega)⟩, zbind_some (C_at1 hK0 a (by first | decide | omega) (by first | decide | omega)), zbind_some (C_put (by first | decide | omega) (by first | decide | omega) (by first | decide | omega))]
      have e1 : zup3 F 0 0 1 (F 0 0 1 + 1) 0 0 1 = F 0 0 1 + 1 := by simp [zup3]
      have e2 : zup3 F 0 0 1 (F 0 0 1 + 1) 12 0 0 = F 12 0 0 := by simp [zup3]
      have e3 : zup3 F 0 0 1 (F 0 0 1 + 1) 12 0 2 = F 12 0 2 := by simp [zup3]
      have e4 : zup3 F 0 0 1 (F 0 0 1 + 1) 0 1 1 = F 0 1 1 := by simp [zup3]
      obtain ⟨F', B', a1, a2, a3, a4, a5⟩ := ih (k := k + 1) (F := zup3 F 0 0 1 (F 0 0 1 + 1)) (B := zup4 B 0 0 0 (F 0 0 1) (zand (B 0 1 0 k) 255)) (by first | decide | omega) (by first | decide | omega) (by rw [e2, t]) (by rw [e3, w]) (by rw [e4, s]) (by rw [e1, z]) (by first | decide | omega)
      refine ⟨F', B', a1, a2, fun c i x hq => ?_, fun c i x hq => by rw [a4 c i x hq, zup4_ne hq], fun y => ?_⟩
      · rw [a3 c i x hq]
        simp [zup3, hq]
      · rw [a5 y, zup4_self, zup4_ne (by decide), z]
        unfold zup
        by_cases hy : y = k
        · subst hy
          rw [if_neg (by first | decide | omega), if_pos rfl, if_pos ⟨(by first | decide | omega), (by first | decide | omega)⟩]
        · by_cases hz : k + 1 ≤ y ∧ y < N
          · rw [if_pos hz, if_pos ⟨(by first | decide | omega), (by first | decide | omega)⟩]
          · rw [if_neg hz, if_neg hy, if_neg (by first | decide | omega)]
theorem C_again {K : zK} {F : zF} {B : zB} (hK : 3002 ≤ K.1) (hK0 : 1 < K.2 0) (hK12 : 0 < K.2 12) (hT : F 12 0 0 = 0) (hW : F 12 0 2 = 1) (h0 : 0 ≤ F 0 1 1) (h1 : F 0 1 1 ≤ 20480) :
    ((F 0 1 1 = 0 ∨ 3000 < F 0 1 1) → f_S_again K 0 F B = some (-1, F, B)) ∧
    (0 < F 0 1 1 → F 0 1 1 ≤ 3000 → ∃ F' B', f_S_again K 0 F B = some (F 0 1 1, F', B') ∧ F' 0 0 1 = F 0 1 1 ∧ F' 0 0 2 = 0 ∧ (∀ c i x, ¬ (c = 0 ∧ i = 0 ∧ (x = 1 ∨ x = 2)) → F' c i x = F c i x) ∧ (∀ c i x, ¬ (c = 0 ∧ i = 0 ∧ x = 0) → B' c i x = B c i x) ∧ ∀ y, B' 0 0 0 y = if 0 ≤ y ∧ y < F 0 1 1 then zand (B 0 1 0 y) 255 else B 0 0 0 y) := by
  constructor
  · intro h
    unfold f_S_again f_S_again_23
    rw [if_pos ⟨by decide, hK12⟩, hW, if_pos ⟨by decide, hK0⟩, if_pos (show r32 (F 0 1 1) from ⟨(by first | decide | omega), (by first | decide | omega)⟩)]
    by_cases a : F 0 1 1 = 0
    · rw [if_pos a]
    · rw [if_neg a, if_neg (by first | decide | omega)]
  · intro a b
    have hc : f_ByteRow_clear K 0 F B = some (0, zup3 (zup3 F 0 0 1 0) 0 0 2 0, B) := by
      unfold f_ByteRow_clear
      rw [if_pos ⟨by decide, (by first | decide | omega)⟩]
    obtain ⟨F', B', a1, a2, a3, a4, a5⟩ := C_again_loop (K := K) (N := F 0 1 1) hK0 hK12 b (n := K.1) (k := 0) (F := zup3 (zup3 F 0 0 1 0) 0 0 2 0) (B := B) (by first | decide | omega) (by first | decide | omega) (by simp [zup3, hT]) (by simp [zup3, hW]) (by simp [zup3]) (by simp [zup3]) (by first | decide | omega)
    refine ⟨F', B', ?_, a2, ?_, fun c i x hq => ?_, a4, a5⟩
    · unfold f_S_again
      rw [if_pos ⟨by decide, hK12⟩, hW, if_pos ⟨by decide, hK0⟩, if_pos (show r32 (F 0 1 1) from ⟨(by first | decide | omega), (by first | decide | omega)⟩), if_neg (by first | decide | omega), if_pos b, hT, if_pos ⟨by decide, (by first | decide | omega)⟩, zbind_some hc]
      exact a1
    · rw [a3 0 0 2 (by decide)]
      simp [zup3]
    · rw [a3 c i x (fun q => hq ⟨q.1, q.2.1, Or.inl q.2.2⟩)]
      have n1 : ¬ (c = 0 ∧ i = 0 ∧ x = 1) := fun q => hq ⟨q.1, q.2.1, Or.inl q.2.2⟩
      have n2 : ¬ (c = 0 ∧ i = 0 ∧ x = 2) := fun q => hq ⟨q.1, q.2.1, Or.inr q.2.2⟩
      unfold zup3
      rw [if_neg n2, if_neg n1]
