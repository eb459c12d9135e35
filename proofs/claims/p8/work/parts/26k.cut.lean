section
/-! ===== an event cut at the bars, both sides ===== -/
/-- an event outside brackets, or the rest behind the end -/
def EK (K : zK) (q v w : Int) (m : Nat) (ev ro : Int) (F : zF) (B Bm : zB) : Prop := (ev = -1 ∧ ro = 1) ∨ ∃ i : Nat, ev = i ∧ i < m ∧ m ≤ 200 ∧ (0 ≤ B 4 q 5 i ∧ B 4 q 5 i < K.2 1) ∧ F 1 (B 4 q 5 i) 5 = 0 ∧ Bm 13 w 22 (1000 * v + i) = 0 ∧ F 1 (B 4 q 5 i) 10 = Bm 13 w 21 (1000 * v + i) ∧ (0 ≤ F 1 (B 4 q 5 i) 10 ∧ F 1 (B 4 q 5 i) 10 ≤ 6) ∧ ro = if F 1 (B 4 q 5 i) 10 = 0 then 1 else 0
theorem EK_f {K : zK} {q v w ev ro : Int} {m : Nat} {F F' : zF} {B B' Bm Bm' : zB} (h : EK K q v w m ev ro F B Bm) (f : nF q F F') (b : nB q B B') (g : nM' v w Bm Bm') : EK K q v w m ev ro F' B' Bm' := by
  rcases h with h | ⟨i, h1, h2, h3, h4, h5, h6, h7, h8, h9⟩
  · exact Or.inl h
  · refine Or.inr ⟨i, h1, h2, h3, ?_⟩
    rw [b 4 q 5 i (by first | decide | omega), f 1 _ 5 (by first | decide | omega), f 1 _ 10 (by first | decide | omega), g 13 w 22 _ (by first | decide | omega) (by first | decide | omega), g 13 w 21 _ (by first | decide | omega) (by first | decide | omega)]
    exact ⟨h4, h5, h6, h7, h8, h9⟩
theorem EK_b {K : zK} {q v w ev ro : Int} {m : Nat} {F : zF} {B Bm : zB} (h : EK K q v w m ev ro F B Bm) : (ro = 0 ∨ ro = 1) ∧ (-1 ≤ ev ∧ ev < m) ∧ (ev < 200 ∨ m ≤ 200) := by
  rcases h with ⟨h, h'⟩ | ⟨i, h1, h2, h3, h4, h5, h6, h7, h8, h9⟩
  · exact ⟨Or.inr h', (by first | decide | omega), (by first | decide | omega)⟩
  · refine ⟨?_, (by first | decide | omega), (by first | decide | omega)⟩
    rw [h9]
    split
    · exact Or.inr rfl
    · exact Or.inl rfl
/-- where the piece at a ends -/
def cuE (b a t : Int) : Int := if (a / b + 1) * b < t then (a / b + 1) * b else t
theorem cuE_b {b a t : Int} (b0 : 0 < b) (a0 : 0 ≤ a) (h : a < t) : a < cuE b a t ∧ cuE b a t ≤ t ∧ cuE b a t - a ≤ b ∧ a % b + (cuE b a t - a) ≤ b ∧ (cuE b a t - a = b → a % b = 0) := by
  have e1 := Int.mul_ediv_add_emod a b
  have e2 := Int.emod_nonneg a (show b ≠ 0 by omega)
  have e3 := Int.emod_lt_of_pos a b0
  have e4 : (a / b + 1) * b = b * (a / b) + b := by rw [Int.add_mul, Int.one_mul, Int.mul_comm]
  unfold cuE
  split <;> omega
theorem C_cstep {K : zK} {m n1 : Nat} {q p v w n d ev ro cnt a t : Int} {F : zF} {B Bm : zB} (h4 : 0 ≤ q ∧ q < K.2 4) (hp : 0 ≤ p ∧ p < K.2 6) (hn : 1 ≤ n ∧ n ≤ 12) (hd : d = 2 ∨ d = 4 ∨ d = 8 ∨ d = 16) (e4 : F 6 p 4 = n) (e5 : F 6 p 5 = d) (hE : EK K q v w m ev ro F B Bm) (c0 : 0 ≤ cnt ∧ cnt ≤ 100) (a0 : 0 ≤ a) (at' : a < t) (t1 : t ≤ 307200) : f_Part_cut_18 K (n1 + 1) cnt (X5 * t) (X5 * a) (X5 * (512 / d * n)) q p ev F B = if ro = 1 ∧ cuE (512 / d * n) a t - a = 512 / d * n then zbind (f_Part_addNote K q ev (a / (512 / d * n)) 0 29 F B) (fun _ F1 B1 => f_Part_cut_18 K n1 (cnt + 1) (X5 * t) (X5 * cuE (512 / d * n) a t) (X5 * (512 / d * n)) q p ev F1 B1) else zbind (f_Part_writeCut_43 K K.1 0 (cuE (512 / d * n) a t - a) (a % (512 / d * n)) (a / (512 / d * n)) 1587600 q p ev F B) (fun _ F1 B1 => f_Part_cut_18 K n1 (cnt + 1) (X5 * t) (X5 * cuE (512 / d * n) a t) (X5 * (512 / d * n)) q p ev F1 B1) := by
  have hu := un_d hd
  have b3 := un_3 hu (n := n) (by first | decide | omega)
  have b4 := un_4 hu (n := n) (by first | decide | omega)
  have bV := bar5 (n := n) hd
  have cb := C_bar (F := F) (B := B) hp e4 e5 hn hd
  rw [bV] at cb
  generalize hb : 512 / d * n = b at *
  have xa : ∀ y : Int, X5 * y = 1587600 * y := fun _ => rfl
  have x1 := xa a
  have x2 := xa t
  have x3 := xa b
  have e1 := Int.mul_ediv_add_emod a b
  have e2 := Int.emod_nonneg a (show b ≠ 0 by omega)
  have e3 := Int.emod_lt_of_pos a (show 0 < b by omega)
  have q0 : 0 ≤ a / b := Int.ediv_nonneg a0 (by first | decide | omega)
  have q1 : a / b ≤ a := Int.ediv_le_self _ a0
  have q2 : (a / b + 1) * b = b * (a / b) + b := by rw [Int.add_mul, Int.one_mul, Int.mul_comm]
  have q3 : (a / b + 1) * (X5 * b) = X5 * ((a / b + 1) * b) := by ac_rfl
  have x4 := xa ((a / b + 1) * b)
  have dv : zldv (X5 * a) (X5 * b) = a / b := by rw [zldv_e (by first | decide | omega) (by first | decide | omega) (by first | decide | omega) (by first | decide | omega), X5_d]
  obtain ⟨k1, k2, k3, k4, k5⟩ := cuE_b (b := b) (a := a) (t := t) (by first | decide | omega) a0 at'
  have x5 := xa (cuE b a t)
  have cu : zmin (X5 * t) ((a / b + 1) * (X5 * b)) = X5 * cuE b a t := by
    rw [q3]
    unfold zmin cuE
    by_cases c : (a / b + 1) * b < t
    · rw [if_pos c, if_pos (by first | decide | omega)]
    · rw [if_neg c, if_neg (by first | decide | omega)]
  have e152 : ∀ F1 B1, F1 = F → B1 = B → f_Part_cut_152 (f_Part_cut_18 K n1) K (X5 * cuE b a t) cnt (X5 * t) (X5 * a) (X5 * b) q p ev F1 B1 = zbind (f_Part_writeCut_43 K K.1 0 (cuE b a t - a) (a % b) (a / b) 1587600 q p ev F B) (fun _ F1 B1 => f_Part_cut_18 K n1 (cnt + 1) (X5 * t) (X5 * cuE b a t) (X5 * b) q p ev F1 B1) := by
    intro F1 B1 h1 h2
    subst h1 h2
    have y1 : X5 * a - a / b * (X5 * b) = X5 * (a % b) := by
      rw [show a / b * (X5 * b) = X5 * (b * (a / b)) by ac_rfl]
      have := xa (b * (a / b))
      have := xa (a % b)
      omega
    have y2 : X5 * cuE b a t - X5 * a = X5 * (cuE b a t - a) := by have := xa (cuE b a t - a); omega
    have y3 : zldv (X5 * (a % b)) 1587600 = a % b := by
      have := xa (a % b)
      rw [zldv_e (by first | decide | omega) (by first | decide | omega) (by decide) (by decide), this, Int.mul_ediv_cancel_left _ (by decide)]
    have y4 : zldv (X5 * (cuE b a t - a)) 1587600 = cuE b a t - a := by
      have := xa (cuE b a t - a)
      rw [zldv_e (by first | decide | omega) (by first | decide | omega) (by decide) (by decide), this, Int.mul_ediv_cancel_left _ (by decide)]
    unfold f_Part_cut_152 f_Part_writeCut
    rw [if_pos h4, if_pos hp, cb, zb_s, if_pos (lI_n0 (by first | decide | omega) (by unfold r64; omega)), dv, if_pos (by unfold r32; omega), y1, y2, y3, y4]
    rfl
  have e128 : f_Part_cut_128 (f_Part_cut_18 K n1) K (X5 * cuE b a t) (a / b) cnt (X5 * t) (X5 * a) (X5 * b) q p ev F B = if cuE b a t - a = b then zbind (f_Part_addNote K q ev (a / b) 0 29 F B) (fun _ F1 B1 => f_Part_cut_18 K n1 (cnt + 1) (X5 * t) (X5 * cuE b a t) (X5 * b) q p ev F1 B1) else zbind (f_Part_writeCut_43 K K.1 0 (cuE b a t - a) (a % b) (a / b) 1587600 q p ev F B) (fun _ F1 B1 => f_Part_cut_18 K n1 (cnt + 1) (X5 * t) (X5 * cuE b a t) (X5 * b) q p ev F1 B1) := by
    unfold f_Part_cut_128
    rw [if_pos (show r64 (X5 * cuE b a t - X5 * a) by unfold r64; omega), if_pos (show r64 (X5 * b) by unfold r64; omega)]
    by_cases c : cuE b a t - a = b
    · rw [if_pos c, if_pos (zcmp_0.mpr (by first | decide | omega)), if_pos h4]
      rfl
    · rw [if_neg c, if_neg (fun h => c (by have := zcmp_0.mp h; omega))]
      exact e152 F B rfl rfl
  rw [f_Part_cut_18, if_pos (show r32 cnt by unfold r32; omega), if_neg (show ¬ 100 < cnt by omega), if_pos (show r64 (X5 * a) by unfold r64; omega), if_pos (show r64 (X5 * t) by unfold r64; omega), if_neg (show ¬ 0 ≤ zcmp (X5 * a) (X5 * t) from fun h => by
    have : zcmp (X5 * a) (X5 * t) < 0 := zcmp_lt.mpr (by first | decide | omega)
    omega), if_pos (show r64 (X5 * b) by unfold r64; omega), if_neg (show ¬ zcmp (X5 * b) 0 ≤ 0 from fun h => by have := zcmp_m.mp h; omega), if_pos (lI_n0 (by first | decide | omega) (by unfold r64; omega)), dv, if_pos (show r32 (a / b + 1) by unfold r32; omega), if_pos (show r64 ((a / b + 1) * (X5 * b)) by rw [q3]; unfold r64; omega), cu]
  have eb := EK_b hE
  rcases hE with ⟨h1, h2⟩ | ⟨i, h1, h2, h3, h4', h5, h6, h7, h8, h9⟩
  · rw [h1] at e128
    rw [h1, h2, if_pos (show r32 (-1) by decide), if_pos (show (-1 : Int) = -1 from rfl), f_Part_cut_84, f_Part_cut_85, if_pos (show r32 0 by decide), if_pos (show (0 : Int) = 0 from rfl), if_pos (show r32 (-1) by decide), if_pos (show (-1 : Int) = -1 from rfl), e128]
    by_cases c : cuE b a t - a = b
    · rw [if_pos c, if_pos (show (1 : Int) = 1 ∧ cuE b a t - a = b from ⟨rfl, c⟩)]
    · rw [if_neg c, if_neg (show ¬ ((1 : Int) = 1 ∧ cuE b a t - a = b) from fun h => c h.2)]
  · rw [if_pos (show r32 ev by unfold r32; omega), if_neg (show ¬ ev = -1 by omega), if_pos h4, if_pos (show 0 ≤ ev ∧ ev < 200 by omega), h1, if_pos h4', h5, if_pos (show r32 0 by decide), if_pos (show (0 : Int) = 0 from rfl)]
    rw [h1] at e128 e152
    unfold f_Part_cut_84 f_Part_cut_85
    rw [if_pos (show r32 0 by decide), if_pos (show (0 : Int) = 0 from rfl), if_pos (show r32 (i : Int) by unfold r32; omega), if_neg (show ¬ (i : Int) = -1 by omega), if_pos h4, if_pos (show 0 ≤ (i : Int) ∧ (i : Int) < 200 by omega), if_pos h4']
    unfold f_Event_isRest f_Event_isRest_12
    rw [if_pos h4', if_pos (show r32 (F 1 (B 4 q 5 i) 10) by unfold r32; omega)]
    by_cases z : F 1 (B 4 q 5 i) 10 = 0
    · rw [if_pos z, if_pos (show (1 : Int) = 0 ∨ (1 : Int) = 1 from Or.inr rfl), zb_s, if_pos (show r32 1 by decide), if_neg (show ¬ (1 : Int) = 0 by decide), e128]
      rw [if_pos z] at h9
      by_cases c : cuE b a t - a = b
      · rw [if_pos c, if_pos (show ro = 1 ∧ cuE b a t - a = b from ⟨h9, c⟩)]
      · rw [if_neg c, if_neg (show ¬ (ro = 1 ∧ cuE b a t - a = b) from fun h => c h.2)]
    · rw [if_neg z, if_pos (show (0 : Int) = 0 ∨ (0 : Int) = 1 from Or.inl rfl), zb_s, if_pos (show r32 0 by decide), if_pos (show (0 : Int) = 0 from rfl), e152 F B rfl rfl]
      rw [if_neg z] at h9
      rw [if_neg (show ¬ (ro = 1 ∧ cuE b a t - a = b) from fun h => (by first | decide | omega))]
end
