section
/-! ===== what was made is turned round: the order ===== -/
def rv (lo hi j : Int) : Int := if lo ≤ j ∧ j ≤ hi then lo + hi - j else j
theorem rv_b {lo hi j n : Int} (h0 : 0 ≤ lo) (h1 : hi < n) (j0 : 0 ≤ j) (j1 : j < n) : 0 ≤ rv lo hi j ∧ rv lo hi j < n := by
  unfold rv
  split <;> omega
theorem rv_i {lo hi j : Int} : rv lo hi (rv lo hi j) = j := by
  unfold rv
  by_cases h : lo ≤ j ∧ j ≤ hi
  · rw [if_pos h, if_pos (by first | decide | omega)]; omega
  · rw [if_neg h, if_neg h]
theorem rv_s {lo hi j : Int} (h : lo < hi) : sg2 lo hi (rv (lo + 1) (hi - 1) j) = rv lo hi j := by
  unfold sg2 rv
  by_cases a : j = lo
  · rw [if_neg (show ¬ (lo + 1 ≤ j ∧ j ≤ hi - 1) by omega), if_pos a, if_pos (by first | decide | omega)]; omega
  by_cases b : j = hi
  · rw [if_neg (show ¬ (lo + 1 ≤ j ∧ j ≤ hi - 1) by omega), if_neg a, if_pos b, if_pos (by first | decide | omega)]; omega
  by_cases c : lo + 1 ≤ j ∧ j ≤ hi - 1
  · rw [if_pos c, if_neg (by first | decide | omega), if_neg (by first | decide | omega), if_pos (by first | decide | omega)]; omega
  · rw [if_neg c, if_neg a, if_neg b, if_neg (by first | decide | omega)]
theorem C_turn9 {K : zK} {F : zF} {q fr : Int} (h4 : 0 ≤ q ∧ q < K.2 4) : ∀ (d n : Nat) {lo hi : Int} {B : zB}, (hi + 1 - lo).toNat ≤ d → d < n → 0 ≤ lo → lo ≤ 200 → -1 ≤ hi → hi < 200 → (∀ t, 0 ≤ t → t < 200 → 0 ≤ B 4 q 5 t ∧ B 4 q 5 t < K.2 1) → ∃ B', f_Part_turn_9 K n hi lo q fr F B = f_Part_turn_53 K K.1 fr q F B' ∧ (∀ j, B' 4 q 5 j = B 4 q 5 (rv lo hi j)) ∧ ∀ c i k y, ¬ (c = 4 ∧ i = q ∧ k = 5) → B' c i k y = B c i k y := by
  intro d
  induction d with
  | zero =>
    intro n lo hi B hd hn l0 l1 h0 h1 hV
    obtain ⟨n, rfl⟩ : ∃ m, n = m + 1 := ⟨n - 1, (by first | decide | omega)⟩
    refine ⟨B, ?_, fun j => ?_, fun _ _ _ _ _ => rfl⟩
    · rw [f_Part_turn_9, if_pos (by unfold r32; omega), if_pos (by unfold r32; omega), if_pos (by first | decide | omega)]
    · unfold rv
      rw [if_neg (by first | decide | omega)]
  | succ d ih =>
    intro n lo hi B hd hn l0 l1 h0 h1 hV
    obtain ⟨n, rfl⟩ : ∃ m, n = m + 1 := ⟨n - 1, (by first | decide | omega)⟩
    by_cases c : hi ≤ lo
    · refine ⟨B, ?_, fun j => ?_, fun _ _ _ _ _ => rfl⟩
      · rw [f_Part_turn_9, if_pos (by unfold r32; omega), if_pos (by unfold r32; omega), if_pos c]
      · unfold rv
        by_cases e : lo ≤ j ∧ j ≤ hi
        · rw [if_pos e, show lo + hi - j = j by omega]
        · rw [if_neg e]
    · have sv : ∀ t, (zup4 (zup4 B 4 q 5 lo (B 4 q 5 hi)) 4 q 5 hi (B 4 q 5 lo)) 4 q 5 t = B 4 q 5 (sg2 lo hi t) := fun t => by
        rw [zup4_v, zup4_v]
        unfold sg2
        by_cases e1 : t = hi
        · rw [if_pos (by first | decide | omega), if_neg (by first | decide | omega), if_pos e1]
        · rw [if_neg (by first | decide | omega)]
          by_cases e2 : t = lo
          · rw [if_pos (by first | decide | omega), if_pos e2]
          · rw [if_neg (by first | decide | omega), if_neg e2, if_neg e1]
      obtain ⟨B', e, g1, g2⟩ := ih n (lo := lo + 1) (hi := hi - 1) (B := zup4 (zup4 B 4 q 5 lo (B 4 q 5 hi)) 4 q 5 hi (B 4 q 5 lo)) (by first | decide | omega) (by first | decide | omega) (by first | decide | omega) (by first | decide | omega) (by first | decide | omega) (by first | decide | omega) (fun t u v => by
        rw [sv]
        refine hV _ ?_ ?_ <;> (unfold sg2; split <;> (try split) <;> omega))
      refine ⟨B', ?_, fun j => ?_, fun c i k y h => ?_⟩
      · rw [f_Part_turn_9, if_pos (by unfold r32; omega), if_pos (by unfold r32; omega), if_neg c, if_pos h4, if_pos (by first | decide | omega), if_pos (by first | decide | omega), if_pos (hV hi (by first | decide | omega) (by first | decide | omega)), if_pos (hV lo (by first | decide | omega) (by first | decide | omega)), e]
      · rw [g1, sv, rv_s (by first | decide | omega)]
      · rw [g2 c i k y h, zup4_v, if_neg (by first | decide | omega), zup4_v, if_neg (by first | decide | omega)]
/-- the reference's rows, turned round between lo and hi -/
def rvB (v w lo hi : Int) (B B' : zB) : Prop := (∀ k j, 16 ≤ k → k ≤ 26 → 0 ≤ j → j < 1000 → B' 13 w k (1000 * v + j) = B 13 w k (1000 * v + rv lo hi j)) ∧ (∀ k j t, 28 ≤ k → k ≤ 29 → 0 ≤ j → j < 1000 → 0 ≤ t → t < 6 → B' 13 w k (6 * (1000 * v + j) + t) = B 13 w k (6 * (1000 * v + rv lo hi j) + t)) ∧ ∀ c i k y, ¬ inV v w c i k y → B' c i k y = B c i k y
theorem rvB_0 {v w lo hi : Int} {B : zB} (h : hi ≤ lo) : rvB v w lo hi B B := by
  have e : ∀ j, rv lo hi j = j := fun j => by
    unfold rv
    by_cases e : lo ≤ j ∧ j ≤ hi
    · rw [if_pos e]; omega
    · rw [if_neg e]
  exact ⟨fun k j _ _ _ _ => by rw [e], fun k j t _ _ _ _ _ _ => by rw [e], fun _ _ _ _ _ => rfl⟩
theorem rvB_s {v w lo hi : Int} {B B1 B2 : zB} (v0 : 0 ≤ v) (l0 : 0 ≤ lo) (h1 : hi < 1000) (h : lo < hi) (s : sw6 w (1000 * v + lo) (1000 * v + hi) 6 B B1) (r : rvB v w (lo + 1) (hi - 1) B1 B2) : rvB v w lo hi B B2 := by
  obtain ⟨r1, r2, r3⟩ := r
  refine ⟨fun k j a b j0 j1 => ?_, fun k j t a b j0 j1 t0 t1 => ?_, fun c i k y n => ?_⟩
  · rw [r1 k j a b j0 j1, s, if_pos ⟨rfl, rfl, a, b⟩, ← rv_s h]
    unfold sg2
    generalize rv (lo + 1) (hi - 1) j = u
    by_cases e1 : u = lo
    · rw [if_pos (by first | decide | omega), if_pos e1]
    rw [if_neg (by first | decide | omega), if_neg e1]
    by_cases e2 : u = hi
    · rw [if_pos (by first | decide | omega), if_pos e2]
    · rw [if_neg (by first | decide | omega), if_neg e2]
  · rw [r2 k j t a b j0 j1 t0 t1, s, if_neg (by first | decide | omega), if_pos ⟨rfl, rfl, a, b⟩, ← rv_s h]
    unfold sg2 sg6
    generalize rv (lo + 1) (hi - 1) j = u
    by_cases e1 : u = lo
    · rw [if_pos (by first | decide | omega), if_pos e1]
      congr 1
      omega
    rw [if_neg (by first | decide | omega), if_neg e1]
    by_cases e2 : u = hi
    · rw [if_pos (by first | decide | omega), if_pos e2]
      congr 1
      omega
    · rw [if_neg (by first | decide | omega), if_neg e2]
  · rw [r3 c i k y n, s]
    unfold inV at n
    by_cases e1 : c = 13 ∧ i = w ∧ 16 ≤ k ∧ k ≤ 26
    · rw [if_pos e1, e1.1, e1.2.1]
      unfold sg2
      rw [if_neg (by first | decide | omega), if_neg (by first | decide | omega)]
    rw [if_neg e1]
    by_cases e2 : c = 13 ∧ i = w ∧ 28 ≤ k ∧ k ≤ 29
    · rw [if_pos e2, e2.1, e2.2.1]
      unfold sg6
      rw [if_neg (by first | decide | omega), if_neg (by first | decide | omega)]
    · rw [if_neg e2]
theorem L_gb50 {o : oT_W} {K : Nat} {F : zF} {v w fr : Int} (hK : 10 < K) (hv : F 14 0 35 = v) (v0 : 0 ≤ v ∧ v < 4) (hw : F 14 0 6 = w) (w0 : 0 ≤ w ∧ w < 3) : ∀ (d n : Nat) {lo hi : Int} {B : zB}, (hi + 1 - lo).toNat ≤ d → d < n → 0 ≤ lo → lo ≤ 200 → -1 ≤ hi → hi < 200 → ∃ B', f_M_goBack_50 o K n hi lo fr F B = f_M_goBack_92 o K K fr F B' ∧ rvB v w lo hi B B' := by
  intro d
  induction d with
  | zero =>
    intro n lo hi B hd hn l0 l1 h0 h1
    obtain ⟨n, rfl⟩ : ∃ m, n = m + 1 := ⟨n - 1, (by first | decide | omega)⟩
    exact ⟨B, by rw [f_M_goBack_50, if_pos (by unfold r32; omega), if_pos (by unfold r32; omega), if_pos (by first | decide | omega)], rvB_0 (by first | decide | omega)⟩
  | succ d ih =>
    intro n lo hi B hd hn l0 l1 h0 h1
    obtain ⟨n, rfl⟩ : ∃ m, n = m + 1 := ⟨n - 1, (by first | decide | omega)⟩
    by_cases c : hi ≤ lo
    · exact ⟨B, by rw [f_M_goBack_50, if_pos (by unfold r32; omega), if_pos (by unfold r32; omega), if_pos c], rvB_0 c⟩
    · obtain ⟨B1, e1, s⟩ := L_exch (K := K) (w := w) (a := 1000 * v + lo) (b := 1000 * v + hi) (F := F) (B := B) hK hw w0 (by first | decide | omega) (by first | decide | omega) (by first | decide | omega)
      obtain ⟨B', e, g⟩ := ih n (lo := lo + 1) (hi := hi - 1) (B := B1) (by first | decide | omega) (by first | decide | omega) (by first | decide | omega) (by first | decide | omega) (by first | decide | omega) (by first | decide | omega)
      exact ⟨B', by rw [f_M_goBack_50, hv, if_pos (by unfold r32; omega), if_pos (by unfold r32; omega), if_neg c, e1, zb_s, e], rvB_s v0.1 l0 (by first | decide | omega) (by first | decide | omega) s g⟩
end
