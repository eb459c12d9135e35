/-! ===== the tape: feed, end, out, exactly, on both sides ===== -/
theorem L_end {K : Nat} {l : Int} {F : zF} {B : zB} (hK : 22 ≤ K) (hl : r32 l) (h0 : 0 ≤ F 14 0 3) (h1 : F 14 0 3 ≤ 3000) :
    ((l < 0 ∨ 20 < l ∨ 3000 < F 14 0 3 + l) → f_M_end K l F B = some (-1, F, B)) ∧
    (0 ≤ l → l ≤ 20 → F 14 0 3 + l ≤ 3000 → ∃ B', f_M_end K l F B = some (F 14 0 3 + l, zup3 F 14 0 3 (F 14 0 3 + l), B') ∧ (∀ c i x, ¬ (c = 14 ∧ i = 0 ∧ x = 2) → B' c i x = B c i x) ∧ B' 14 0 2 = endRow (B 14 0 2) (B 14 0 4) (F 14 0 3) 0 l) := by
  constructor
  · intro h
    unfold f_M_end f_M_end_22
    rw [if_pos hl]
    by_cases a : l < 0
    · rw [if_pos a]
    · rw [if_neg a]
      by_cases b : 20 < l
      · rw [if_pos b]
      · rw [if_neg b, if_pos (show r32 (F 14 0 3 + l) from ⟨by omega, by omega⟩), if_neg (by omega)]
  · intro a b d
    unfold f_M_end
    rw [if_pos hl, if_neg (by omega), if_neg (by omega), if_pos (show r32 (F 14 0 3 + l) from ⟨by omega, by omega⟩), if_pos d]
    exact L_end_loop (by omega) a b h0 d (by omega)
theorem C_put {K : zK} {v : Int} {F : zF} {B : zB} (hK : 0 < K.2 0) (h0 : 0 ≤ F 0 0 1) (h1 : F 0 0 1 < 3000) : f_ByteRow_put K 0 v F B = some (0, zup3 F 0 0 1 (F 0 0 1 + 1), zup4 B 0 0 0 (F 0 0 1) (zand v 255)) := by
  have e : (lnC 0 0 0 : Int) = 3000 := rfl
  unfold f_ByteRow_put
  rw [e, if_pos ⟨by decide, hK⟩, if_pos (show r32 (F 0 0 1) from ⟨by omega, by omega⟩), if_pos (show r32 (3000 : Int) from ⟨by decide, by decide⟩), if_pos h1, if_pos ⟨h0, h1⟩]
theorem C_end_loop {K : zK} {l : Int} (hK0 : 0 < K.2 0) (hK12 : 0 < K.2 12) (hl : l ≤ 20) : ∀ {n : Nat} {k : Int} {F : zF} {B : zB}, 0 ≤ k → k ≤ l → F 12 0 0 = 0 → 0 ≤ F 0 0 1 → F 0 0 1 + (l - k) ≤ 3000 → l - k < n → ∃ F' B', f_S_end_29 K n k 0 l F B = some (F 0 0 1 + (l - k), F', B') ∧ F' 0 0 1 = F 0 0 1 + (l - k) ∧ (∀ c i x, ¬ (c = 0 ∧ i = 0 ∧ x = 1) → F' c i x = F c i x) ∧ (∀ c i x, ¬ (c = 0 ∧ i = 0 ∧ x = 0) → B' c i x = B c i x) ∧ ∀ y, B' 0 0 0 y = if F 0 0 1 ≤ y ∧ y < F 0 0 1 + (l - k) then zand (B 12 0 1 (k + (y - F 0 0 1))) 255 else B 0 0 0 y := by
  intro n
  induction n with
  | zero => intro k F B h0 h1 hT h3 h4 h5; omega
  | succ n ih =>
    intro k F B h0 h1 hT h3 h4 h5
    unfold f_S_end_29
    rw [if_pos (show r32 k from ⟨by omega, by omega⟩), if_pos (show r32 l from ⟨by omega, by omega⟩), hT]
    by_cases h : l ≤ k
    · rw [if_pos h, if_pos ⟨by decide, hK12⟩, if_pos ⟨by decide, hK0⟩]
      refine ⟨F, B, ?_, by omega, fun _ _ _ _ => rfl, fun _ _ _ _ => rfl, fun y => ?_⟩
      · rw [show F 0 0 1 + (l - k) = F 0 0 1 by omega]
      · rw [if_neg (by omega)]
    · rw [if_neg h, if_pos ⟨by decide, hK12⟩, if_pos ⟨h0, by omega⟩, if_pos ⟨by decide, hK0⟩, C_put hK0 h3 (by omega)]
      have e1 : zup3 F 0 0 1 (F 0 0 1 + 1) 0 0 1 = F 0 0 1 + 1 := by simp [zup3]
      have e2 : zup3 F 0 0 1 (F 0 0 1 + 1) 12 0 0 = F 12 0 0 := by simp [zup3]
      obtain ⟨F', B', a1, a2, a3, a4, a5⟩ := ih (k := k + 1) (F := zup3 F 0 0 1 (F 0 0 1 + 1)) (B := zup4 B 0 0 0 (F 0 0 1) (zand (B 12 0 1 k) 255)) (by omega) (by omega) (by rw [e2, hT]) (by rw [e1]; omega) (by rw [e1]; omega) (by omega)
      rw [e1] at a1 a2 a5
      refine ⟨F', B', ?_, by rw [a2]; omega, fun c i x hq => ?_, fun c i x hq => ?_, fun y => ?_⟩
      · show f_S_end_29 K n (k + 1) 0 l (zup3 F 0 0 1 (F 0 0 1 + 1)) (zup4 B 0 0 0 (F 0 0 1) (zand (B 12 0 1 k) 255)) = _
        rw [a1]
        congr 2
        omega
      · rw [a3 c i x hq]
        simp [zup3, hq]
      · rw [a4 c i x hq, zup4_ne hq]
      · rw [a5 y, zup4_self, zup4_ne (by decide)]
        unfold zup
        by_cases hy : y = F 0 0 1
        · subst hy
          rw [if_neg (by omega), if_pos rfl, if_pos ⟨by omega, by omega⟩]
          congr 2
          omega
        · by_cases hz : F 0 0 1 + 1 ≤ y ∧ y < F 0 0 1 + 1 + (l - (k + 1))
          · rw [if_pos hz, if_pos ⟨by omega, by omega⟩]
            congr 2
            omega
          · rw [if_neg hz, if_neg hy, if_neg (by omega)]
theorem C_end {K : zK} {l : Int} {F : zF} {B : zB} (hK : 22 ≤ K.1) (hK0 : 0 < K.2 0) (hK12 : 0 < K.2 12) (hl : r32 l) (hT : F 12 0 0 = 0) (h0 : 0 ≤ F 0 0 1) (h1 : F 0 0 1 ≤ 3000) :
    ((l < 0 ∨ 20 < l ∨ 3000 < F 0 0 1 + l) → f_S_end K 0 l F B = some (-1, F, B)) ∧
    (0 ≤ l → l ≤ 20 → F 0 0 1 + l ≤ 3000 → ∃ F' B', f_S_end K 0 l F B = some (F 0 0 1 + l, F', B') ∧ F' 0 0 1 = F 0 0 1 + l ∧ (∀ c i x, ¬ (c = 0 ∧ i = 0 ∧ x = 1) → F' c i x = F c i x) ∧ (∀ c i x, ¬ (c = 0 ∧ i = 0 ∧ x = 0) → B' c i x = B c i x) ∧ ∀ y, B' 0 0 0 y = if F 0 0 1 ≤ y ∧ y < F 0 0 1 + l then zand (B 12 0 1 (y - F 0 0 1)) 255 else B 0 0 0 y) := by
  constructor
  · intro h
    unfold f_S_end f_S_end_25
    rw [if_pos hl]
    by_cases a : l < 0
    · rw [if_pos a]
    · rw [if_neg a]
      by_cases b : 20 < l
      · rw [if_pos b]
      · rw [if_neg b, if_pos ⟨by decide, hK12⟩, hT, if_pos ⟨by decide, hK0⟩, if_pos (show r32 (F 0 0 1 + l) from ⟨by omega, by omega⟩), if_neg (by omega)]
  · intro a b d
    unfold f_S_end
    rw [if_pos hl, if_neg (by omega), if_neg (by omega), if_pos ⟨by decide, hK12⟩, hT, if_pos ⟨by decide, hK0⟩, if_pos (show r32 (F 0 0 1 + l) from ⟨by omega, by omega⟩), if_pos d]
    obtain ⟨F', B', a1, a2, a3, a4, a5⟩ := C_end_loop (K := K) (l := l) hK0 hK12 b (n := K.1) (k := 0) (F := F) (B := B) (by omega) a hT h0 (by omega) (by omega)
    refine ⟨F', B', ?_, by rw [a2]; omega, a3, a4, fun y => ?_⟩
    · rw [a1]
      congr 2
      omega
    · rw [a5 y, show F 0 0 1 + (l - 0) = F 0 0 1 + l by omega, show (0 : Int) + (y - F 0 0 1) = y - F 0 0 1 by omega]
theorem L_out {K : Nat} {l : Int} {F : zF} {B : zB} (hl : r32 l) (h0 : 0 ≤ F 14 0 71) (h1 : F 14 0 71 ≤ 40000) : f_M_out K l F B = some (if 0 ≤ l ∧ l < F 14 0 71 then zand (B 14 0 70 l) 255 else -1, F, B) := by
  unfold f_M_out f_M_out_25 f_M_out_26
  rw [if_pos hl]
  by_cases a : l < 0
  · rw [if_pos a, if_neg (by omega)]
  · rw [if_neg a, if_pos (show r32 (F 14 0 71) from ⟨by omega, by omega⟩)]
    by_cases b : F 14 0 71 ≤ l
    · rw [if_pos b, if_neg (by omega)]
    · rw [if_neg b, if_pos ⟨by omega, by omega⟩, if_pos ⟨by omega, by omega⟩]
theorem C_out {K : zK} {l : Int} {F : zF} {B : zB} (hK0 : 1 < K.2 0) (hK12 : 0 < K.2 12) (hl : r32 l) (hT : F 12 0 2 = 1) (h0 : 0 ≤ F 0 1 1) (h1 : F 0 1 1 ≤ 20480) : f_S_out K 0 l F B = some (if 0 ≤ l ∧ l < F 0 1 1 then B 0 1 0 l else -1, F, B) := by
  have e : (lnC 0 1 0 : Int) = 20480 := rfl
  have h : f_ByteRow_at K 1 l F B = some (if 0 ≤ l ∧ l < F 0 1 1 then B 0 1 0 l else -1, F, B) := by
    unfold f_ByteRow_at f_ByteRow_at_12 f_ByteRow_at_22
    rw [if_pos hl]
    by_cases a : l < 0
    · rw [if_pos a, if_neg (by omega)]
    · rw [if_neg a, if_pos ⟨by decide, hK0⟩, if_pos (show r32 (F 0 1 1) from ⟨by omega, by omega⟩), e]
      by_cases b : l < F 0 1 1
      · rw [if_pos b, if_pos ⟨by omega, by omega⟩, if_pos ⟨by omega, by omega⟩]
      · rw [if_neg b, if_neg (by omega)]
  unfold f_S_out
  rw [if_pos ⟨by decide, hK12⟩, hT, if_pos ⟨by decide, hK0⟩, h]
  rfl
