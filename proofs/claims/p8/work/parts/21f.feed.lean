/-! ===== feed, exactly, on both sides ===== -/
theorem zbind_some {x : zO} {k : Int → zF → zB → zO} {r : Int} {F : zF} {B : zB} (h : x = some (r, F, B)) : zbind x k = k r F B := by rw [h]; rfl
def wby (a m : Int) : Int := a / 2 ^ (24 - 8 * m).toNat
def wsel (a1 a2 a3 a4 a5 y : Int) : Int := if y < 4 then a1 else if y < 8 then a2 else if y < 12 then a3 else if y < 16 then a4 else a5
theorem C_wait_loop {K : zK} {l1 l2 : Int} {F : zF} (hK12 : 0 < K.2 12) (h0 : 0 ≤ l1) (h1 : l1 ≤ 16) : ∀ {n : Nat} {k : Int} {B : zB}, 0 ≤ k → k ≤ 4 → 4 - k < n → ∃ B', f_S_waitWord_2 K n k 0 l1 l2 F B = some (0, F, B') ∧ (∀ c i x, ¬ (c = 12 ∧ i = 0 ∧ x = 1) → B' c i x = B c i x) ∧ ∀ y, B' 12 0 1 y = if l1 + k ≤ y ∧ y < l1 + 4 then wby l2 (y - l1) % 256 else B 12 0 1 y := by
  intro n
  induction n with
  | zero => intro k B a b d; omega
  | succ n ih =>
    intro k B a b d
    unfold f_S_waitWord_2 f_S_waitWord_42
    rw [if_pos (show r32 k from ⟨(by first | decide | omega), (by first | decide | omega)⟩)]
    by_cases h : 4 ≤ k
    · rw [if_pos h]
      exact ⟨B, rfl, fun _ _ _ _ => rfl, fun y => by rw [if_neg (by first | decide | omega)]⟩
    · rw [if_neg h, if_pos (show r32 (l1 + k) from ⟨(by first | decide | omega), (by first | decide | omega)⟩), if_neg (by first | decide | omega), if_pos ⟨by decide, hK12⟩, if_pos ⟨(by first | decide | omega), (by first | decide | omega)⟩, zushr_byte (by first | decide | omega)]
      obtain ⟨B', e1, e2, e3⟩ := ih (k := k + 1) (B := zup4 B 12 0 1 (l1 + k) (l2 / 2 ^ (24 - 8 * k).toNat % 256)) (by first | decide | omega) (by first | decide | omega) (by first | decide | omega)
      refine ⟨B', e1, fun c i x hq => by rw [e2 c i x hq, zup4_ne hq], fun y => ?_⟩
      rw [e3 y, zup4_self]
      unfold zup
      by_cases hy : y = l1 + k
      · subst hy
        rw [if_neg (by first | decide | omega), if_pos rfl, if_pos ⟨(by first | decide | omega), (by first | decide | omega)⟩]
        unfold wby
        rw [show l1 + k - l1 = k by omega]
      · by_cases hz : l1 + (k + 1) ≤ y ∧ y < l1 + 4
        · rw [if_pos hz, if_pos ⟨(by first | decide | omega), (by first | decide | omega)⟩]
        · rw [if_neg hz, if_neg hy, if_neg (by first | decide | omega)]
theorem C_wait {K : zK} {l1 l2 : Int} {F : zF} {B : zB} (hK : 22 ≤ K.1) (hK12 : 0 < K.2 12) (h0 : 0 ≤ l1) (h1 : l1 ≤ 16) : ∃ B', f_S_waitWord K 0 l1 l2 F B = some (0, F, B') ∧ (∀ c i x, ¬ (c = 12 ∧ i = 0 ∧ x = 1) → B' c i x = B c i x) ∧ ∀ y, B' 12 0 1 y = if l1 ≤ y ∧ y < l1 + 4 then wby l2 (y - l1) % 256 else B 12 0 1 y := by
  obtain ⟨B', a, b, d⟩ := C_wait_loop (K := K) (l1 := l1) (l2 := l2) (F := F) hK12 h0 h1 (n := K.1) (k := 0) (B := B) (by first | decide | omega) (by first | decide | omega) (by first | decide | omega)
  exact ⟨B', a, b, fun y => by rw [d y, Int.add_zero]⟩
theorem C_feed {K : zK} {a1 a2 a3 a4 a5 : Int} {F : zF} {B : zB} (hK : 22 ≤ K.1) (hK12 : 0 < K.2 12) : ∃ B', f_S_feed K 0 a1 a2 a3 a4 a5 F B = some (0, F, B') ∧ (∀ c i x, ¬ (c = 12 ∧ i = 0 ∧ x = 1) → B' c i x = B c i x) ∧ ∀ y, B' 12 0 1 y = if 0 ≤ y ∧ y < 20 then wby (wsel a1 a2 a3 a4 a5 y) (y % 4) % 256 else B 12 0 1 y := by
  obtain ⟨B1, p1, q1, r1⟩ := C_wait (K := K) (l1 := 0) (l2 := a1) (F := F) (B := B) hK hK12 (by decide) (by decide)
  obtain ⟨B2, p2, q2, r2⟩ := C_wait (K := K) (l1 := 4) (l2 := a2) (F := F) (B := B1) hK hK12 (by decide) (by decide)
  obtain ⟨B3, p3, q3, r3⟩ := C_wait (K := K) (l1 := 8) (l2 := a3) (F := F) (B := B2) hK hK12 (by decide) (by decide)
  obtain ⟨B4, p4, q4, r4⟩ := C_wait (K := K) (l1 := 12) (l2 := a4) (F := F) (B := B3) hK hK12 (by decide) (by decide)
  obtain ⟨B5, p5, q5, r5⟩ := C_wait (K := K) (l1 := 16) (l2 := a5) (F := F) (B := B4) hK hK12 (by decide) (by decide)
  refine ⟨B5, ?_, fun c i x hq => by rw [q5 c i x hq, q4 c i x hq, q3 c i x hq, q2 c i x hq, q1 c i x hq], fun y => ?_⟩
  · unfold f_S_feed
    rw [if_pos ⟨by decide, hK12⟩, zbind_some p1, zbind_some p2, zbind_some p3, zbind_some p4, zbind_some p5]
  · rw [r5 y, r4 y, r3 y, r2 y, r1 y]
    unfold wsel
    by_cases h : 0 ≤ y ∧ y < 20
    · rw [if_pos h]
      by_cases h1 : y < 4
      · rw [if_neg (by first | decide | omega), if_neg (by first | decide | omega), if_neg (by first | decide | omega), if_neg (by first | decide | omega), if_pos ⟨(by first | decide | omega), (by first | decide | omega)⟩, if_pos h1, show y - 0 = y % 4 by omega]
      · by_cases h2 : y < 8
        · rw [if_neg (by first | decide | omega), if_neg (by first | decide | omega), if_neg (by first | decide | omega), if_pos ⟨(by first | decide | omega), (by first | decide | omega)⟩, if_neg h1, if_pos h2, show y - 4 = y % 4 by omega]
        · by_cases h3 : y < 12
          · rw [if_neg (by first | decide | omega), if_neg (by first | decide | omega), if_pos ⟨(by first | decide | omega), (by first | decide | omega)⟩, if_neg h1, if_neg h2, if_pos h3, show y - 8 = y % 4 by omega]
          · by_cases h4 : y < 16
            · rw [if_neg (by first | decide | omega), if_pos ⟨(by first | decide | omega), (by first | decide | omega)⟩, if_neg h1, if_neg h2, if_neg h3, if_pos h4, show y - 12 = y % 4 by omega]
            · rw [if_pos ⟨(by first | decide | omega), (by first | decide | omega)⟩, if_neg h1, if_neg h2, if_neg h3, if_neg h4, show y - 16 = y % 4 by omega]
    · rw [if_neg h, if_neg (by first | decide | omega), if_neg (by first | decide | omega), if_neg (by first | decide | omega), if_neg (by first | decide | omega), if_neg (by first | decide | omega)]
theorem L_feed_loop {K : Nat} {a1 a2 a3 a4 a5 : Int} (h1 : r32 a1) (h2 : r32 a2) (h3 : r32 a3) (h4 : r32 a4) (h5 : r32 a5) {F : zF} : ∀ {n : Nat} {k : Int} {B : zB}, 0 ≤ k → k ≤ 20 → 20 - k < n → ∃ B', f_M_feed_3 K n k a1 a2 a3 a4 a5 F B = some (0, F, B') ∧ (∀ c i x, ¬ (c = 14 ∧ i = 0 ∧ x = 4) → B' c i x = B c i x) ∧ ∀ y, B' 14 0 4 y = if k ≤ y ∧ y < 20 then (wby (wsel a1 a2 a3 a4 a5 y) (y % 4)).bmod 256 else B 14 0 4 y := by
  intro n
  induction n with
  | zero => intro k B a b d; omega
  | succ n ih =>
    intro k B a b d
    have step : ∀ s0, r32 s0 → wsel a1 a2 a3 a4 a5 k = s0 → k < 20 → ∃ B', f_M_feed_56 (f_M_feed_3 K n) K k a1 a2 a3 a4 a5 s0 F B = some (0, F, B') ∧ (∀ c i x, ¬ (c = 14 ∧ i = 0 ∧ x = 4) → B' c i x = B c i x) ∧ ∀ y, B' 14 0 4 y = if k ≤ y ∧ y < 20 then (wby (wsel a1 a2 a3 a4 a5 y) (y % 4)).bmod 256 else B 14 0 4 y := by
      intro s0 hs hw hk
      unfold f_M_feed_56
      rw [if_pos ⟨a, hk⟩, zi2b_i, zrm_e a (by first | decide | omega) (by decide) (by decide), zshr_byte hs (by first | decide | omega), zi2b_e]
      obtain ⟨B', e1, e2, e3⟩ := ih (k := k + 1) (B := zup4 B 14 0 4 k ((s0 / 2 ^ (24 - 8 * (k % 4)).toNat).bmod 256)) (by first | decide | omega) (by first | decide | omega) (by first | decide | omega)
      refine ⟨B', e1, fun c i x hq => by rw [e2 c i x hq, zup4_ne hq], fun y => ?_⟩
      rw [e3 y, zup4_self]
      unfold zup
      by_cases hy : y = k
      · subst hy
        rw [if_neg (by first | decide | omega), if_pos rfl, if_pos ⟨(by first | decide | omega), (by first | decide | omega)⟩, hw]
        rfl
      · by_cases hz : k + 1 ≤ y ∧ y < 20
        · rw [if_pos hz, if_pos ⟨(by first | decide | omega), (by first | decide | omega)⟩]
        · rw [if_neg hz, if_neg hy, if_neg (by first | decide | omega)]
    unfold f_M_feed_3
    rw [if_pos (show r32 k from ⟨(by first | decide | omega), (by first | decide | omega)⟩)]
    by_cases h : 20 ≤ k
    · rw [if_pos h]
      exact ⟨B, rfl, fun _ _ _ _ => rfl, fun y => by rw [if_neg (by first | decide | omega)]⟩
    · rw [if_neg h]
      by_cases g1 : 4 ≤ k
      · rw [if_pos g1]
        by_cases g2 : 8 ≤ k
        · rw [if_pos g2]
          by_cases g3 : 12 ≤ k
          · rw [if_pos g3]
            by_cases g4 : 16 ≤ k
            · rw [if_pos g4]
              exact step a5 h5 (by unfold wsel; rw [if_neg (by first | decide | omega), if_neg (by first | decide | omega), if_neg (by first | decide | omega), if_neg (by first | decide | omega)]) (by first | decide | omega)
            · rw [if_neg g4]
              exact step a4 h4 (by unfold wsel; rw [if_neg (by first | decide | omega), if_neg (by first | decide | omega), if_neg (by first | decide | omega), if_pos (by first | decide | omega)]) (by first | decide | omega)
          · rw [if_neg g3]
            exact step a3 h3 (by unfold wsel; rw [if_neg (by first | decide | omega), if_neg (by first | decide | omega), if_pos (by first | decide | omega)]) (by first | decide | omega)
        · rw [if_neg g2]
          exact step a2 h2 (by unfold wsel; rw [if_neg (by first | decide | omega), if_pos (by first | decide | omega)]) (by first | decide | omega)
      · rw [if_neg g1]
        exact step a1 h1 (by unfold wsel; rw [if_pos (by first | decide | omega)]) (by first | decide | omega)
theorem L_feed {K : Nat} {a1 a2 a3 a4 a5 : Int} (hK : 22 ≤ K) (h1 : r32 a1) (h2 : r32 a2) (h3 : r32 a3) (h4 : r32 a4) (h5 : r32 a5) {F : zF} {B : zB} : ∃ B', f_M_feed K a1 a2 a3 a4 a5 F B = some (0, F, B') ∧ (∀ c i x, ¬ (c = 14 ∧ i = 0 ∧ x = 4) → B' c i x = B c i x) ∧ ∀ y, B' 14 0 4 y = if 0 ≤ y ∧ y < 20 then (wby (wsel a1 a2 a3 a4 a5 y) (y % 4)).bmod 256 else B 14 0 4 y :=
  L_feed_loop h1 h2 h3 h4 h5 (by first | decide | omega) (by first | decide | omega) (by first | decide | omega)
