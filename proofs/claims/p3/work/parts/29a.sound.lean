section
/-! ===== sounds: ticks, forces, tones, pitches that hold on ===== -/
/-- the tick of a place -/
def tk (p : Int) : Int := p / 2116800
theorem tk_0 {p : Int} (h : 0 ≤ p) : 0 ≤ tk p := Int.ediv_nonneg h (by decide)
theorem tk_m {p q : Int} (h : p ≤ q) : tk p ≤ tk q := Int.ediv_le_ediv (by decide) h
theorem tk_b {p : Int} (h : p ≤ 1000000000000) : tk p ≤ 472411 := by
  have := tk_m h
  have : tk 1000000000000 ≤ 472411 := by decide
  omega
theorem C_tick {K : zK} {p : Int} {F : zF} {B : zB} (p0 : 0 ≤ p) (p1 : p ≤ 1000000000000) : f_Performance_tick K p F B = some (tk p, F, B) := by
  unfold f_Performance_tick tk
  rw [zldv_e (by omega) (by omega) (by decide) (by decide), show (812851200 : Int) = 384 * 2116800 by decide, Int.mul_ediv_mul_of_pos p 2116800 (show (0 : Int) < 384 by decide)]
theorem L_tick {K : Nat} {p : Int} {F : zF} {B : zB} (p0 : 0 ≤ p) (p1 : p ≤ 1000000000000) : f_M_tick K (nu p) (de p) F B = some (tk p, F, B) := by
  have h := FR_r p0
  have hb := FR_b h
  have hw : WW = 812851200 := rfl
  have e := (div_FR (c := 1) (d := 384) (q := 2116800) h.2.2.2 (by decide) h.1 (by decide) (by decide) (by decide)).1
  have t0 := tk_0 p0
  have t1 := tk_b p1
  have n0 := h.2.2.1
  have d0 := h.1
  unfold f_M_tick
  have v : zldv (384 * nu p) (de p) = tk p := by
    rw [zldv_e (by omega) (by omega) d0 (by omega), Int.mul_comm 384]
    rw [Int.mul_one] at e
    exact e
  rw [if_pos (lI_n0 d0 (by unfold r64; omega)), v, if_pos (by unfold r32; omega)]
/-- how hard an event is struck -/
def foV (m l : Int) : Int := if 20 + 13 * l + (if zand m 16 = 0 then 0 else 15) ≤ 127 then 20 + 13 * l + (if zand m 16 = 0 then 0 else 15) else 127
theorem foV_b {m l : Int} (h : 0 ≤ l ∧ l ≤ 7) : 0 ≤ foV m l ∧ foV m l ≤ 127 := by
  unfold foV
  by_cases a : zand m 16 = 0
  · rw [if_pos a]; split <;> omega
  · rw [if_neg a]; split <;> omega
theorem mk8_f : ∀ n : Fin 128, (zand (n.val : Nat) 8 = 0 ∨ zand (n.val : Nat) 8 = 8) ∧ (zand (n.val : Nat) 16 = 0 ∨ zand (n.val : Nat) 16 = 16) ∧ (zand (n.val : Nat) 32 = 0 ∨ zand (n.val : Nat) 32 = 32) ∧ (zand (n.val : Nat) 64 = 0 ∨ zand (n.val : Nat) 64 = 64) := by decide
theorem mk8_i {a : Int} (h0 : 0 ≤ a) (h1 : a < 128) : (zand a 8 = 0 ∨ zand a 8 = 8) ∧ (zand a 16 = 0 ∨ zand a 16 = 16) ∧ (zand a 32 = 0 ∨ zand a 32 = 32) ∧ (zand a 64 = 0 ∨ zand a 64 = 64) := by
  have h := mk8_f ⟨a.toNat, by omega⟩
  rw [show (((⟨a.toNat, by omega⟩ : Fin 128).val : Nat) : Int) = a by show ((a.toNat : Nat) : Int) = a; omega] at h
  exact h
theorem C_force {K : zK} {e : Int} {F : zF} {B : zB} (he : 0 ≤ e ∧ e < K.2 1) (hl : 0 ≤ F 1 e 8 ∧ F 1 e 8 ≤ 7) : f_Performance_force K e F B = some (foV (F 1 e 7) (F 1 e 8), F, B) := by
  unfold f_Performance_force f_Performance_force_25 foV zmin
  rw [if_pos he, C_has he, zb_s]
  by_cases a : zand (F 1 e 7) 16 = 0
  · rw [if_pos a, if_pos (by decide), if_pos rfl, if_pos (by unfold r32; omega), if_pos a]
    by_cases b : 20 + 13 * F 1 e 8 + 0 ≤ 127
    · rw [if_pos b, if_neg (by omega)]
    · rw [if_neg b, if_pos (by omega)]
  · rw [if_neg a, if_pos (by decide), if_neg (by decide), if_pos (by unfold r32; omega), if_neg a]
    by_cases b : 20 + 13 * F 1 e 8 + 15 ≤ 127
    · rw [if_pos b, if_neg (by omega)]
    · rw [if_neg b, if_pos (by omega)]
/-- the reference's table of forces -/
def T61 (Bm : zB) : Prop := ∀ l, 0 ≤ l → l < 8 → Bm 14 0 61 l = 20 + 13 * l
theorem L_force {K : Nat} {w x : Int} {F : zF} {B : zB} (hT : T61 B) (w0 : 0 ≤ w ∧ w < 3) (x0 : 0 ≤ x ∧ x < 4000) (hm : 0 ≤ B 13 w 18 x ∧ B 13 w 18 x < 128) (hl : 0 ≤ B 13 w 19 x ∧ B 13 w 19 x ≤ 7) : f_M_forceOf K w x F B = some (foV (B 13 w 18 x) (B 13 w 19 x), F, B) := by
  obtain ⟨_, m16, _, _⟩ := mk8_i hm.1 hm.2
  unfold f_M_forceOf f_M_forceOf_29 f_M_forceOf_43 foV
  rw [if_pos w0, if_pos x0, if_pos (by omega), if_pos (zand_R _ _), hT _ hl.1 (by omega)]
  by_cases a : zand (B 13 w 18 x) 16 = 0
  · rw [if_pos (show zand (B 13 w 18 x) 16 ≤ 0 by omega), if_pos (show r32 (20 + 13 * B 13 w 19 x + 0) by unfold r32; omega), if_pos a]
    by_cases b : 20 + 13 * B 13 w 19 x + 0 ≤ 127
    · rw [if_pos b, if_pos b]
    · rw [if_neg b, if_neg b]
  · rw [if_neg (show ¬ zand (B 13 w 18 x) 16 ≤ 0 by omega), if_pos (show r32 (20 + 13 * B 13 w 19 x + 15) by unfold r32; omega), if_neg a]
    by_cases b : 20 + 13 * B 13 w 19 x + 15 ≤ 127
    · rw [if_pos b, if_pos b]
    · rw [if_neg b, if_neg b]
/-- the tone of a pitch -/
theorem C_tone {K : zK} {e k : Int} {F : zF} {B : zB} (he : 0 ≤ e ∧ e < K.2 1) (k0 : 0 ≤ k ∧ k < 6) (hs : 0 ≤ B 1 e 12 k ∧ B 1 e 12 k ≤ 62) : f_Event_tone K e k F B = some (tnv (B 1 e 12 k) + B 1 e 13 k, F, B) := by
  unfold f_Event_tone
  rw [if_pos he, if_pos k0, C_nat hs.1 hs.2, zb_s]
theorem L_toneT {K : Nat} {s a : Int} {F : zF} {B : zB} (h0 : 0 ≤ s) (h1 : s ≤ 62) : f_M_tone K s a F B = some (tnv s + a, F, B) := by
  rw [L_tone h0 (by omega)]
  rfl
theorem tnv_r {s a : Int} (h0 : 0 ≤ s) (h1 : s ≤ 62) (a0 : -2 ≤ a) (a1 : a ≤ 2) : 0 ≤ tnv s + a ∧ tnv s + a ≤ 127 := by
  unfold tnv
  split <;> omega
/-- a pitch that an event has is found -/
theorem fP_i {rs ra : Int → Int} {c s a k : Int} (k1 : k < c) (e1 : rs k = s) (e2 : ra k = a) : ∀ (n : Nat) (j : Int), 0 ≤ j → j ≤ k → k - j < n → 0 ≤ fP rs ra c s a n j := by
  intro n
  induction n with
  | zero => intro j _ _ h; exfalso; omega
  | succ n ih =>
    intro j j0 jk h
    unfold fP
    split
    · omega
    · split
      · exact j0
      · rename_i h1 h2
        by_cases e : j = k
        · exfalso
          apply h2
          subst e
          exact ⟨e1, e2⟩
        · exact ih (j + 1) (by omega) (by omega) (by omega)
end
