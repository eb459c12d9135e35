section
section
/-! ===== play: the reference's side ===== -/
theorem zland32 (x : Int) : zland x 4294967295 = x % 4294967296 := by
  have h : (lI x &&& lI 4294967295).toBitVec = BitVec.ofInt 64 x &&& 4294967295#64 := rfl
  have hn : (BitVec.ofInt 64 x &&& 4294967295#64).toNat = (x % 4294967296).toNat := by
    rw [BitVec.toNat_and, BitVec.toNat_ofInt]
    show (x % (2 ^ 64 : Nat)).toNat &&& 4294967295 = _
    rw [show (x % (2 ^ 64 : Nat)).toNat &&& 4294967295 = (x % (2 ^ 64 : Nat)).toNat % 4294967296 from Nat.and_two_pow_sub_one_eq_mod _ 32]
    omega
  show (lI x &&& lI 4294967295).toBitVec.toInt = x % 4294967296
  rw [h, BitVec.toInt_eq_toNat_of_lt (by rw [hn]; omega), hn]
  omega
theorem zl24 (a : Int) : 0 ≤ zlshr (zland a 4294967295) 24 ∧ zlshr (zland a 4294967295) 24 ≤ 255 := by
  rw [zland32]
  have k := zls8 (w := a % 4294967296) (by first | decide | omega) (by first | decide | omega) 3 (by decide)
  rw [show (8 * ((3 : Nat) : Int)) = 24 from rfl] at k
  rw [k, show (256 : Int) ^ 3 = 16777216 from rfl]
  omega
section
variable {K : Nat} {F : zF} {B : zB}
theorem L_wave {a b : Int} (ha : 0 ≤ a ∧ a ≤ 3) (hb : 0 ≤ b ∧ b ≤ 255) : ∃ r, f_M_wave K a b F B = some (r, F, B) ∧ -128 ≤ r ∧ r ≤ 128 := by
  have key : ∀ s : Int, -128 ≤ s ∧ s ≤ 128 → ∃ r, f_M_wave_24 K a b s F B = some (r, F, B) ∧ -128 ≤ r ∧ r ≤ 128 := fun s hs => by
    unfold f_M_wave_24 f_M_wave_43 f_M_wave_76
    rw [if_pos (by unfold r32; omega)]
    by_cases c0 : a = 0
    · rw [if_pos c0, if_pos (by unfold r32; omega)]
      by_cases c : 128 ≤ b
      · rw [if_pos c]; exact ⟨_, rfl, (by first | decide | omega), (by first | decide | omega)⟩
      · rw [if_neg c]; exact ⟨_, rfl, (by first | decide | omega), (by first | decide | omega)⟩
    · rw [if_neg c0]
      by_cases c1 : a = 1
      · rw [if_pos c1]; exact ⟨_, rfl, (by first | decide | omega), (by first | decide | omega)⟩
      · rw [if_neg c1]
        by_cases c2 : a = 2
        · rw [if_pos c2]; exact ⟨_, rfl, hs⟩
        · have w := wv3e hs
          rw [if_neg c2, if_pos (by unfold r32; omega)]
          by_cases c3 : 0 ≤ s
          · rw [show zabs s = s by unfold zabs; rw [if_pos c3]] at w
            rw [if_pos c3]; exact ⟨_, rfl, w⟩
          · rw [show zabs s = -s by unfold zabs; rw [if_neg c3]] at w
            rw [if_neg c3]; exact ⟨_, rfl, w⟩
  unfold f_M_wave
  rw [if_pos (by unfold r32; omega)]
  by_cases c : 128 ≤ b
  · rw [if_pos c]; exact key _ (by first | decide | omega)
  · rw [if_neg c]; exact key _ (by first | decide | omega)
theorem L_rise {x : Int} (hx : 0 ≤ x ∧ x ≤ 200000000) : ∃ r, f_M_rise K x F B = some (r, F, B) ∧ 0 ≤ r ∧ r ≤ 256 := by
  unfold f_M_rise f_M_rise_41
  rw [if_pos (by unfold r32; omega)]
  by_cases c : 40 ≤ x
  · rw [if_pos c, zdv_e (by first | decide | omega) (by unfold r32; omega) (by decide) (by decide), if_pos (by unfold r32; omega)]
    by_cases c' : 128 ≤ 256 - (x - 40) / 16
    · rw [if_pos c']; exact ⟨_, rfl, (by first | decide | omega), (by first | decide | omega)⟩
    · rw [if_neg c']; exact ⟨_, rfl, (by first | decide | omega), (by first | decide | omega)⟩
  · rw [if_neg c, zdv_e (by first | decide | omega) (by unfold r32; omega) (by decide) (by decide)]
    exact ⟨_, rfl, (by first | decide | omega), (by first | decide | omega)⟩
theorem L_lev {a b : Int} (ha : 0 ≤ a ∧ a ≤ 200000000) (hb : 0 ≤ b ∧ b ≤ 200000000) (hab : a < b + 400) : ∃ r, f_M_level K a b F B = some (r, F, B) ∧ 0 ≤ r ∧ r ≤ 256 := by
  obtain ⟨r, e, r0, r1⟩ := L_rise (K := K) (F := F) (B := B) hb
  obtain ⟨r', e', r0', r1'⟩ := L_rise (K := K) (F := F) (B := B) ha
  unfold f_M_level f_M_level_34
  rw [if_pos (by unfold r32; omega), if_pos (by unfold r32; omega)]
  by_cases c : b ≤ a
  · have m1 : r * (400 - (a - b)) ≤ 256 * (400 - (a - b)) := Int.mul_le_mul_of_nonneg_right r1 (by first | decide | omega)
    have m2 : 0 ≤ r * (400 - (a - b)) := Int.mul_nonneg r0 (by first | decide | omega)
    rw [if_pos c]
    by_cases c0 : b = 0
    · rw [if_pos c0]; exact ⟨_, rfl, (by first | decide | omega), (by first | decide | omega)⟩
    · rw [if_neg c0, e, zb_s, zdv_e m2 (by unfold r32; omega) (by decide) (by decide)]
      exact ⟨_, rfl, (by first | decide | omega), (by first | decide | omega)⟩
  · rw [if_neg c, e', zb_s]; exact ⟨_, rfl, r0', r1'⟩
theorem L_turn {a : Int} (ha : 0 ≤ a ∧ a ≤ 127) : ∃ r, f_M_turn K a F B = some (r, F, B) := by
  have h : zR (f_M_turnOf K (zrm a 12) F B) F B := by
    unfold f_M_turnOf f_M_turnOf_108
    exact zR_g (zrm_R _ _) (zR_i (fun _ => zR_s) (fun _ => zR_i (fun _ => zR_s) (fun _ => zR_i (fun _ => zR_s) (fun _ => zR_i (fun _ => zR_s) (fun _ => zR_i (fun _ => zR_s) (fun _ => zR_i (fun _ => zR_s) (fun _ => zR_i (fun _ => zR_s) (fun _ => zR_i (fun _ => zR_s) (fun _ => zR_i (fun _ => zR_s) (fun _ => zR_i (fun _ => zR_s) (fun _ => zR_i (fun _ => zR_s) (fun _ => zR_s))))))))))))
  unfold f_M_turn f_M_turn_42
  exact zR_b h (fun _ => zR_g (zdv_R _ _) (zR_i (fun _ => zR_s) (fun _ => zR_s)))
theorem L_held {v lo hi : Int} (rv : r32 v) (r0 : r32 lo) (r1 : r32 hi) (h : lo ≤ hi) : ∃ r, f_M_held K v lo hi F B = some (r, F, B) ∧ lo ≤ r ∧ r ≤ hi := by
  unfold f_M_held f_M_held_19
  rw [if_pos rv, if_pos r0]
  by_cases c : lo ≤ v
  · rw [if_pos c, if_pos r1]
    by_cases c' : v ≤ hi
    · rw [if_pos c']; exact ⟨_, rfl, c, c'⟩
    · rw [if_neg c']; exact ⟨_, rfl, h, Int.le_refl _⟩
  · rw [if_neg c]; exact ⟨_, rfl, Int.le_refl _, h⟩
/-- a piece's sounds, as mixing wants them -/
def MXh (w c : Int) (F : zF) (B : zB) : Prop := (0 ≤ w ∧ w < 3) ∧ (F 13 w 54 = c ∧ 0 ≤ c ∧ c ≤ 2000) ∧ (20 ≤ F 13 w 6 ∧ F 13 w 6 ≤ 300) ∧ ∀ j, 0 ≤ j → j < c → (0 ≤ B 13 w 55 j ∧ B 13 w 55 j < B 13 w 56 j ∧ B 13 w 56 j ≤ 500000) ∧ (0 ≤ B 13 w 57 j ∧ B 13 w 57 j ≤ 127) ∧ (0 ≤ B 13 w 58 j ∧ B 13 w 58 j ≤ 127) ∧ (0 ≤ B 13 w 59 j ∧ B 13 w 59 j < 4) ∧ (0 ≤ B 13 w 9 (B 13 w 59 j) ∧ B 13 w 9 (B 13 w 59 j) ≤ 3)
theorem L_mix5 {w c t : Int} (h : MXh w c F B) (ht : 0 ≤ t ∧ t ≤ 2000000) : ∀ (d N : Nat) (i v : Int), i + d = c → 0 ≤ i → d < N → (-(5000 * i) ≤ v ∧ v ≤ 5000 * i) → ∃ r, f_M_mixed_5 K N i v w t F B = some (r, F, B) ∧ -32768 ≤ r ∧ r ≤ 32767 := by
  obtain ⟨w0, ⟨hc, c0, c1⟩, h6, hj⟩ := h
  intro d
  induction d with
  | zero =>
    intro N i v hi i0 hN hv
    obtain ⟨p, rfl⟩ : ∃ p, N = p + 1 := ⟨N - 1, (by first | decide | omega)⟩
    obtain ⟨r, e, r0, r1⟩ := L_held (K := K) (F := F) (B := B) (v := v) (lo := -32768) (hi := 32767) (by unfold r32; omega) (by decide) (by decide) (by decide)
    rw [f_M_mixed_5, if_pos w0, if_pos (by unfold r32; omega), hc, if_pos (by unfold r32; omega), if_pos (by first | decide | omega), e, zb_s]
    exact ⟨r, rfl, r0, r1⟩
  | succ d ih =>
    intro N i v hi i0 hN hv
    obtain ⟨p, rfl⟩ : ∃ p, N = p + 1 := ⟨N - 1, (by first | decide | omega)⟩
    obtain ⟨a1, a2, a3, a4, a5⟩ := hj i i0 (by first | decide | omega)
    have nxt : ∀ v', (-(5000 * (i + 1)) ≤ v' ∧ v' ≤ 5000 * (i + 1)) → ∃ r, f_M_mixed_149 (f_M_mixed_5 K p) K i v' w t F B = some (r, F, B) ∧ -32768 ≤ r ∧ r ≤ 32767 := fun v' hv' => ih p (i + 1) v' (by first | decide | omega) (by first | decide | omega) (by first | decide | omega) hv'
    have zS : zldv (B 13 w 55 i * 5000) (F 13 w 6) = B 13 w 55 i * 5000 / F 13 w 6 := zldv_e (by first | decide | omega) (by first | decide | omega) (by first | decide | omega) (by first | decide | omega)
    have zE : zldv (B 13 w 56 i * 5000) (F 13 w 6) = B 13 w 56 i * 5000 / F 13 w 6 := zldv_e (by first | decide | omega) (by first | decide | omega) (by first | decide | omega) (by first | decide | omega)
    have S0 : 0 ≤ B 13 w 55 i * 5000 / F 13 w 6 := Int.ediv_nonneg (by first | decide | omega) (by first | decide | omega)
    have SE : B 13 w 55 i * 5000 / F 13 w 6 ≤ B 13 w 56 i * 5000 / F 13 w 6 := Int.ediv_le_ediv (by first | decide | omega) (by first | decide | omega)
    have E1 : B 13 w 56 i * 5000 / F 13 w 6 ≤ 125000000 := Int.ediv_le_of_le_mul (by first | decide | omega) (by first | decide | omega)
    rw [f_M_mixed_5, zS, zE]
    generalize B 13 w 55 i * 5000 / F 13 w 6 = S at S0 SE ⊢
    generalize B 13 w 56 i * 5000 / F 13 w 6 = E at SE E1 ⊢
    rw [if_pos w0, if_pos (by unfold r32; omega), hc, if_pos (by unfold r32; omega), if_neg (by first | decide | omega), if_pos (by first | decide | omega), if_pos (by unfold r32; omega), if_pos (by unfold r32; omega), if_pos (lI_n0 (by first | decide | omega) (by unfold r64; omega)), if_pos (by unfold r32; omega), if_pos (by unfold r32; omega), if_pos (by unfold r32; omega), if_pos (by unfold r32; omega)]
    by_cases q1 : t < S
    · rw [if_pos q1]; exact nxt v (by first | decide | omega)
    rw [if_neg q1, if_pos (by unfold r32; omega)]
    by_cases q2 : t ≤ E + 399
    · obtain ⟨r, e⟩ := L_turn (K := K) (F := F) (B := B) a2
      obtain ⟨r1, e1, r1a, r1b⟩ := L_wave (K := K) (F := F) (B := B) a5 (zl24 ((t - S) * r))
      obtain ⟨r2, e2, r2a, r2b⟩ := L_lev (K := K) (F := F) (B := B) (a := t - S) (b := E - S) (by first | decide | omega) (by first | decide | omega) (by first | decide | omega)
      have m := mul3 ⟨r1a, r1b⟩ ⟨r2a, r2b⟩ a3
      have z := zdvB (a := r1 * r2 * B 13 w 58 i) (b := 1024) (y := 4064) (by unfold r32; omega) (by decide) (by decide) m
      have zl := zl24 ((t - S) * r)
      rw [if_pos q2, if_pos (by unfold r32; omega), e, zb_s, if_pos a4, if_pos (by unfold r32; omega), e1, zb_s, e2, zb_s]
      exact nxt _ (by first | decide | omega)
    · rw [if_neg q2]; exact nxt v (by first | decide | omega)
/-- what playing may change, reference -/
def pmF (w : Int) (F F' : zF) : Prop := ∀ c y k, ¬ (c = 13 ∧ y = w ∧ 65 ≤ k ∧ k ≤ 69) → F' c y k = F c y k
def pmB (w : Int) (B B' : zB) : Prop := ∀ c y k x, ¬ (c = 13 ∧ y = w ∧ (k = 70 ∨ k = 71)) → B' c y k x = B c y k x
theorem pmF_t {w : Int} {F F1 F2 : zF} (h : pmF w F F1) (h' : pmF w F1 F2) : pmF w F F2 := fun c y k n => by rw [h' c y k n, h c y k n]
theorem pmB_t {w : Int} {B B1 B2 : zB} (h : pmB w B B1) (h' : pmB w B1 B2) : pmB w B B2 := fun c y k x n => by rw [h' c y k x n, h c y k x n]
theorem pmF_w {w x : Int} {F : zF} {k : Nat} (h0 : 65 ≤ k) (h1 : k ≤ 69) : pmF w F (zup3 F 13 w k x) := fun c y j n => by rw [zup3_v, if_neg (by first | decide | omega)]
theorem pmB_w {w i x : Int} {B : zB} {k : Nat} (hk : k = 70 ∨ k = 71) : pmB w B (zup4 B 13 w k i x) := fun c y j z n => by rw [zup4_v, if_neg (by first | decide | omega)]
def PCm (w : Int) (F : zF) : Prop := (-32768 ≤ F 13 w 67 ∧ F 13 w 67 ≤ 32767) ∧ (-32768 ≤ F 13 w 68 ∧ F 13 w 68 ≤ 32767) ∧ (0 ≤ F 13 w 69 ∧ F 13 w 69 ≤ 88)
def cdQ (w : Int) (F : zF) (B : zB) (x : zO) : Prop := ∃ r F', x = some (r, F', B) ∧ pmF w F F' ∧ F' 13 w 65 = F 13 w 65 ∧ PCm w F'
theorem L_c130 {w l4 a b : Int} (w0 : 0 ≤ w ∧ w < 3) (hT : TQm B) (h : PCm w F) (h4 : 0 ≤ l4 ∧ l4 ≤ 100) (ha : -200000 ≤ a + b ∧ a + b ≤ 200000) : cdQ w F B (f_M_coded_130 K l4 w w a b F B) := by
  obtain ⟨h1, h2, h3⟩ := h
  obtain ⟨r, e, r0, r1⟩ := L_held (K := K) (F := F) (B := B) (v := a + b) (lo := -32768) (hi := 32767) (by unfold r32; omega) (by decide) (by decide) (by decide)
  have m := hT.2.1 (l4 % 8) (by first | decide | omega) (by first | decide | omega)
  obtain ⟨r', e', r0', r1'⟩ := L_held (K := K) (F := zup3 F 13 w 68 r) (B := B) (v := F 13 w 69 + B 14 0 97 (l4 % 8)) (lo := 0) (hi := 88) (by unfold r32; omega) (by decide) (by decide) (by decide)
  unfold f_M_coded_130
  rw [if_pos w0, e, zb_s, if_pos w0, zrm_e h4.1 (by unfold r32; omega) (by decide) (by decide), if_pos (by first | decide | omega), e', zb_s]
  refine ⟨_, _, rfl, pmF_t (pmF_w (by decide) (by decide)) (pmF_w (by decide) (by decide)), by rw [zup3_v, if_neg (by first | decide | omega), zup3_v, if_neg (by first | decide | omega)], ?_⟩
  unfold PCm
  rw [zup3_v, if_neg (by first | decide | omega), zup3_v, if_neg (by first | decide | omega), zup3_v, if_neg (by first | decide | omega), zup3_v, if_pos ⟨rfl, rfl, rfl⟩, zup3_v, if_pos ⟨rfl, rfl, rfl⟩]
  exact ⟨h1, ⟨r0, r1⟩, ⟨r0', r1'⟩⟩
theorem L_cod {w : Int} (w0 : 0 ≤ w ∧ w < 3) (hT : TQm B) (h : PCm w F) : cdQ w F B (f_M_coded K w F B) := by
  have h' := h
  obtain ⟨h1, h2, h3⟩ := h
  have m := hT.1 (F 13 w 69) h3.1 (by first | decide | omega)
  have k112 : ∀ l6 l5 l4 : Int, 0 ≤ l6 ∧ l6 ≤ 130000 → (l5 = 0 ∨ l5 = 1) → 0 ≤ l4 ∧ l4 ≤ 100 → cdQ w F B (f_M_coded_112 K l6 l5 l4 w F B) := fun l6 l5 l4 q6 q5 q4 => by
    unfold f_M_coded_112
    rw [if_pos w0, if_pos (by unfold r32; omega)]
    by_cases c : l5 = 0
    · rw [if_pos c]; exact L_c130 w0 hT h' q4 (by first | decide | omega)
    · rw [if_neg c]; exact L_c130 w0 hT h' q4 (by first | decide | omega)
  have key : ∀ t l4 d : Int, (t = 0 ∨ t = 1) → l4 = 0 → (-70000 ≤ d ∧ d ≤ 70000) → cdQ w F B (f_M_coded_32 K l4 (B 14 0 96 (F 13 w 69)) d w t F B) := fun t l4 d ht h4 hd => by
    generalize B 14 0 96 (F 13 w 69) = L at m ⊢
    have z8 := zdv_e (a := L) (b := 8) (by first | decide | omega) (by unfold r32; omega) (by decide) (by decide)
    have z4 := zdv_e (a := L) (b := 4) (by first | decide | omega) (by unfold r32; omega) (by decide) (by decide)
    have z2 := zdv_e (a := L) (b := 2) (by first | decide | omega) (by unfold r32; omega) (by decide) (by decide)
    have k94 : ∀ l6 l5 l4 l2 : Int, 0 ≤ l6 ∧ l6 ≤ 90000 → (l5 = 0 ∨ l5 = 1) → 0 ≤ l4 ∧ l4 ≤ 90 → (-200000 ≤ l2 ∧ l2 ≤ 200000) → cdQ w F B (f_M_coded_94 K l6 l5 l4 L l2 w F B) := fun l6 l5 l4 l2 q6 q5 q4 q2 => by
      unfold f_M_coded_94
      rw [z4, if_pos (by unfold r32; omega), if_pos (by unfold r32; omega)]
      by_cases c : l2 < L / 4
      · rw [if_pos c]; exact k112 _ _ _ (by first | decide | omega) q5 (by first | decide | omega)
      · rw [if_neg c]; exact k112 _ _ _ (by first | decide | omega) q5 (by first | decide | omega)
    have k70 : ∀ l6 l5 l4 l2 : Int, 0 ≤ l6 ∧ l6 ≤ 50000 → (l5 = 0 ∨ l5 = 1) → 0 ≤ l4 ∧ l4 ≤ 80 → (-150000 ≤ l2 ∧ l2 ≤ 150000) → cdQ w F B (f_M_coded_70 K l6 l5 l4 L l2 w F B) := fun l6 l5 l4 l2 q6 q5 q4 q2 => by
      unfold f_M_coded_70
      rw [z2, if_pos (by unfold r32; omega), if_pos (by unfold r32; omega)]
      by_cases c : l2 < L / 2
      · rw [if_pos c]; exact k94 _ _ _ _ (by first | decide | omega) q5 (by first | decide | omega) (by first | decide | omega)
      · rw [if_neg c]; exact k94 _ _ _ _ (by first | decide | omega) q5 (by first | decide | omega) (by first | decide | omega)
    have k46 : ∀ l5 l4 l2 : Int, (l5 = 0 ∨ l5 = 1) → 0 ≤ l4 ∧ l4 ≤ 70 → (-70000 ≤ l2 ∧ l2 ≤ 70000) → cdQ w F B (f_M_coded_46 K l5 l4 L l2 w F B) := fun l5 l4 l2 q5 q4 q2 => by
      unfold f_M_coded_46
      rw [z8, if_pos (by unfold r32; omega), if_pos (by unfold r32; omega)]
      by_cases c : l2 < L
      · rw [if_pos c]; exact k70 _ _ _ _ (by first | decide | omega) q5 (by first | decide | omega) (by first | decide | omega)
      · rw [if_neg c]; exact k70 _ _ _ _ (by first | decide | omega) q5 (by first | decide | omega) (by first | decide | omega)
    unfold f_M_coded_32
    rw [if_pos (by unfold r32; omega)]
    by_cases c : t = 0
    · rw [if_pos c]; exact k46 _ _ _ ht (by first | decide | omega) hd
    · rw [if_neg c]; exact k46 _ _ _ ht (by first | decide | omega) (by first | decide | omega)
  unfold f_M_coded
  rw [if_pos w0, if_pos (by first | decide | omega), if_pos (by unfold r32; omega)]
  by_cases c : 0 ≤ F 13 w 67 - F 13 w 68
  · rw [if_pos c]; exact key 0 0 _ (Or.inl rfl) rfl (by first | decide | omega)
  · rw [if_neg c]; exact key 1 0 _ (Or.inr rfl) rfl (by first | decide | omega)
end
theorem MXh_f {w c : Int} {F F' : zF} {B B' : zB} (h : MXh w c F B) (f : pmF w F F') (b : pmB w B B') : MXh w c F' B' := by
  have e : ∀ k x, k ≤ 60 → B' 13 w k x = B 13 w k x := fun k x hk => b 13 w k x (by first | decide | omega)
  unfold MXh at *
  rw [f 13 w 54 (by first | decide | omega), f 13 w 6 (by first | decide | omega)]
  refine ⟨h.1, h.2.1, h.2.2.1, fun j j0 j1 => ?_⟩
  rw [e 55 j (by decide), e 56 j (by decide), e 57 j (by decide), e 58 j (by decide), e 59 j (by decide), e 9 _ (by decide)]
  exact h.2.2.2 j j0 j1
theorem L_pl33 {K : Nat} {w c n P : Int} {F0 : zF} {B0 : zB} (hK : 60000 ≤ K) (hT : TQm B0) (h : MXh w c F0 B0) (n0 : 0 ≤ n ∧ n ≤ 1000) (P0 : 0 ≤ P ∧ P ≤ 1000000) : ∀ (d N : Nat) (i : Int) (F : zF) (B : zB), i + d = n → 0 ≤ i → d < N → pmF w F0 F → pmB w B0 B → F 13 w 65 = P + i → PCm w F → ∃ r F' B', f_M_play_33 K N i w n F B = some (r, F', B') ∧ r = P + n ∧ pmF w F0 F' ∧ pmB w B0 B' ∧ F' 13 w 65 = P + n ∧ F' 13 w 66 = n ∧ PCm w F' := by
  have w0 := h.1
  intro d
  induction d with
  | zero =>
    intro N i F B hi i0 hN f b hP hC
    obtain ⟨p, rfl⟩ : ∃ p, N = p + 1 := ⟨N - 1, (by first | decide | omega)⟩
    rw [f_M_play_33, if_pos (by unfold r32; omega), if_pos (by unfold r32; omega), if_pos (by first | decide | omega), if_pos w0]
    refine ⟨_, _, B, rfl, by rw [hP]; omega, pmF_t f (pmF_w (by decide) (by decide)), b, by rw [zup3_v, if_neg (by first | decide | omega), hP]; omega, by rw [zup3_v, if_pos ⟨rfl, rfl, rfl⟩], ?_⟩
    unfold PCm at *
    rw [zup3_v, if_neg (by first | decide | omega), zup3_v, if_neg (by first | decide | omega), zup3_v, if_neg (by first | decide | omega)]
    exact hC
  | succ d ih =>
    intro N i F B hi i0 hN f b hP hC
    obtain ⟨p, rfl⟩ : ∃ p, N = p + 1 := ⟨N - 1, (by first | decide | omega)⟩
    have hm := MXh_f h f b
    have hTB : TQm B := TQm_e hT (fun k x _ => b 14 0 k x (by first | decide | omega))
    have hc := hm.2.1
    obtain ⟨v, e, v0, v1⟩ := L_mix5 (K := K) (t := F 13 w 65) hm (by first | decide | omega) c.toNat K 0 0 (by first | decide | omega) (by decide) (by first | decide | omega) (by first | decide | omega)
    have e' : f_M_mixed K w (F 13 w 65) F B = some (v, F, B) := e
    have z3 := zdv2 (d := v - F 13 w 67) (by have := hC.1; unfold r32; omega)
    have z4 : -32768 ≤ F 13 w 67 + zdv (v - F 13 w 67) 2 ∧ F 13 w 67 + zdv (v - F 13 w 67) 2 ≤ 32767 := by
      have := hC.1
      rcases Int.le_total 0 (v - F 13 w 67) with q | q
      · have := z3.1 q; omega
      · have := z3.2 q; omega
    rw [f_M_play_33, if_pos (by unfold r32; omega), if_pos (by unfold r32; omega), if_neg (by first | decide | omega), if_pos w0, e', zb_s, if_pos (by first | decide | omega)]
    generalize F 13 w 67 + zdv (v - F 13 w 67) 2 = x at z4 ⊢
    have hC1 : PCm w (zup3 F 13 w 67 x) := by
      unfold PCm at *
      rw [zup3_v, if_pos ⟨rfl, rfl, rfl⟩, zup3_v, if_neg (by first | decide | omega), zup3_v, if_neg (by first | decide | omega)]
      exact ⟨z4, hC.2⟩
    obtain ⟨r, F1, g0, g1, g2, g3⟩ := L_cod (K := K) (B := zup4 B 13 w 70 i x) w0 (TQm_e hTB (fun k x _ => by rw [zup4_v, if_neg (by first | decide | omega)])) hC1
    rw [g0, zb_s]
    refine ih p (i + 1) _ _ (by first | decide | omega) (by first | decide | omega) (by first | decide | omega) (pmF_t f (pmF_t (pmF_w (by decide) (by decide)) (pmF_t g1 (pmF_w (by decide) (by decide))))) (pmB_t b (pmB_t (pmB_w (by first | decide | omega)) (pmB_w (by first | decide | omega)))) (by rw [zup3_v, if_pos ⟨rfl, rfl, rfl⟩, g2, zup3_v, if_neg (by first | decide | omega), hP]; omega) ?_
    unfold PCm at *
    rw [zup3_v, if_neg (by first | decide | omega), zup3_v, if_neg (by first | decide | omega), zup3_v, if_neg (by first | decide | omega)]
    exact g3
end
end
section
section
/-! ===== the calls of play and sample ===== -/
variable {cc : Int}
theorem IV_u {Km : Nat} {K : zK} {F Fm : zF} {B Bm : zB} (h : IV cc Km K F B Fm Bm) : IU cc K F B Fm Bm := by
  obtain ⟨p, p0, p1, w, w0, w1, hE, _⟩ := h
  exact hE.2.2.2.2.2.1
theorem IU_mono {cd : Int} {K : zK} {F Fm : zF} {B Bm : zB} (hc : cc ≤ cd) (h : IU cc K F B Fm Bm) : IU cd K F B Fm Bm := by
  obtain ⟨h0, h1, h2, h3, h4, h5, h6⟩ := h
  refine ⟨⟨(by first | decide | omega), h0.2⟩, h1, fun s s0 s1 => ?_, h3, h4, fun i i0 i1 z => ?_, h6⟩
  · have := h2 s s0 s1
    unfold PXu at *
    omega
  · have := h5 i i0 i1 z
    unfold PMu at *
    omega
theorem IV_mono {cd : Int} {Km : Nat} {K : zK} {F Fm : zF} {B Bm : zB} (hc : cc ≤ cd) (h : IV cc Km K F B Fm Bm) : IV cd Km K F B Fm Bm := by
  obtain ⟨p, p0, p1, w, w0, w1, ⟨e1, e2, e3, e4, e5, e6, e7⟩, hz⟩ := h
  exact ⟨p, p0, p1, w, w0, w1, ⟨e1, e2, e3, e4, e5, IU_mono hc e6, e7⟩, hz⟩
theorem p_sample {Km : Nat} (a1 a2 a3 : Int) (h1 : r32 a1) (h2 : r32 a2) (h3 : r32 a3) {K : zK} {F Fm : zF} {B Bm : zB} (h : IV cc Km K F B Fm Bm) : ∃ r1 F1 B1 r2 F2 B2, f_S_sample K 0 a1 a2 a3 F B = some (r1, F1, B1) ∧ f_M_sample Km a1 a2 a3 Fm Bm = some (r2, F2, B2) ∧ IV cc Km K F1 B1 F2 B2 := by
  obtain ⟨x, y, e1, e2, e3⟩ := prf h h1
  obtain ⟨_, _, hU5, _, _, hUm, _⟩ := IV_u h
  refine rd2 h ?_ ?_
  · unfold f_S_sample f_S_sample_25
    rw [if_pos (IV_12 h), e1, zb_s]
    rcases e3 with ⟨x0, _⟩ | ⟨x0, _⟩
    · exact zR_i (fun _ => zR_s) (fun a => absurd x0 a)
    · have px := (hU5 x x0.1 x0.2).2.1
      exact zR_i (fun _ => zR_s) (fun _ => zR_g h2 (zR_i (fun _ => zR_s) (fun n => zR_g x0 (zR_g (by unfold r32; omega) (zR_i (fun l => zR_g h3 (zR_i (fun _ => zR_g (by first | decide | omega) zR_s) (fun _ => zR_i (fun _ => zR_g (by first | decide | omega) zR_s) (fun _ => zR_s)))) (fun _ => zR_s))))))
  · unfold f_M_sample f_M_sample_33 f_M_sample_69
    rw [e2, zb_s]
    rcases e3 with ⟨_, y0 | ⟨y0, z⟩⟩ | ⟨_, y0, z, _⟩
    · exact zR_i (fun _ => zR_s) (fun a => absurd y0 a)
    · exact zR_i (fun _ => zR_s) (fun _ => zR_g y0 (zR_g (by rw [z]; decide) (zR_i (fun _ => zR_s) (fun a => absurd z a))))
    · have px := (hUm y y0.1 y0.2 (by first | decide | omega)).2.1
      exact zR_i (fun _ => zR_s) (fun _ => zR_g y0 (zR_g (by rw [z]; decide) (zR_i (fun _ => zR_s) (fun _ => zR_g h2 (zR_i (fun _ => zR_s) (fun n => zR_g (by unfold r32; omega) (zR_i (fun l => zR_g h3 (zR_i (fun _ => zR_g (by first | decide | omega) zR_s) (fun _ => zR_i (fun _ => zR_g (by first | decide | omega) zR_s) (fun _ => zR_s)))) (fun _ => zR_s))))))))
theorem PFD_p {s w c : Int} {F F' : zF} {B B' : zB} {Fm Fm' : zF} {Bm Bm' : zB} (h : PFD s w c F B Fm Bm) (hr : rwS s F) (f : ∀ k, k = 0 ∨ k = 1 ∨ k = 8 → F' 5 s k = F 5 s k) (b : ∀ k x, 180 ≤ k → B' 5 s k x = B 5 s k x) (fm : ∀ k, k = 53 ∨ k = 54 ∨ k = 60 → Fm' 13 w k = Fm 13 w k) (bm : ∀ k x, 55 ≤ k → k ≤ 64 → Bm' 13 w k x = Bm 13 w k x) (e65 : F' 5 s 2 = Fm' 13 w 65) : PFD s w c F' B' Fm' Bm' := by
  have h8 : 180 ≤ (F 5 s 8).toNat := by unfold rwS at hr; omega
  have b8 : ∀ x, B' 5 s (F 5 s 8).toNat x = B 5 s (F 5 s 8).toNat x := fun x => b _ x h8
  unfold PFD SB kz SX at *
  rw [f 0 (by first | decide | omega), f 1 (by first | decide | omega), f 8 (by first | decide | omega), fm 53 (by first | decide | omega), fm 54 (by first | decide | omega), fm 60 (by first | decide | omega)]
  simp only [b8, b 340 _ (by decide), b 341 _ (by decide), b 342 _ (by decide), b 343 _ (by decide), b 344 _ (by decide), b 345 _ (by decide), bm 55 _ (by decide) (by decide), bm 56 _ (by decide) (by decide), bm 57 _ (by decide) (by decide), bm 58 _ (by decide) (by decide), bm 59 _ (by decide) (by decide), bm 61 _ (by decide) (by decide), bm 62 _ (by decide) (by decide), bm 63 _ (by decide) (by decide), bm 64 _ (by decide) (by decide)]
  exact ⟨h.1, h.2.1, h.2.2.1, h.2.2.2.1, h.2.2.2.2.1, h.2.2.2.2.2.1, e65⟩
theorem q_play {Km : Nat} (a1 a2 : Int) (h1 : r32 a1) (h2 : r32 a2) (hcc : cc ≤ 900000) {K : zK} {F Fm : zF} {B Bm : zB} (h : IV cc Km K F B Fm Bm) : ∃ r1 F1 B1 r2 F2 B2, f_S_play K 0 a1 a2 F B = some (r1, F1, B1) ∧ f_M_play Km a1 a2 Fm Bm = some (r2, F2, B2) ∧ IV (cc + 1000) Km K F1 B1 F2 B2 ∧ r1 = r2 := by
  have hI : IV (cc + 1000) Km K F B Fm Bm := IV_mono (by first | decide | omega) h
  obtain ⟨p, p0, p1, w, w0, w1, hE, hW, hO, h7, hX, hK⟩ := h
  have hA := hE.1.1
  obtain ⟨n1, n2, n3, n4, n5, n6⟩ := hE.1.2.2.2.2.1
  have hWw := hE.1.2.2.2.2.2.1
  have s0 := hE.1.2.2.2.2.2.2.2.2.2.1
  have s1 := hE.1.2.2.2.2.2.2.2.2.2.2
  have hU := hE.2.2.2.2.2.1
  have h12 : 0 < K.2 12 := by have := hA.2.2; omega
  have outC : ∀ q, q < 0 → f_S_pieceAt K 0 a1 F B = some (q, F, B) → f_S_play K 0 a1 a2 F B = some (-1, F, B) := fun q q0 c => by
    unfold f_S_play f_S_play_33 f_S_performanceOf f_S_performanceOf_17 f_S_performanceOf_25
    rw [if_pos ⟨(by first | decide | omega), h12⟩, if_pos ⟨(by first | decide | omega), h12⟩, c, zb_s, if_pos q0, zb_s, c, zb_s, if_pos (by decide)]
  have outL : f_M_piece Km a1 Fm Bm = some (-1, Fm, Bm) → f_M_play Km a1 a2 Fm Bm = some (-1, Fm, Bm) := fun l => by
    unfold f_M_play f_M_play_28
    rw [l, zb_s, if_pos (by decide)]
  by_cases z : a1 < 0 ∨ 2 ≤ a1
  · exact ⟨_, _, _, _, _, _, outC (-1) (by decide) (C_atx h1 z), outL (L_atx h1 z), hI, rfl⟩
  · have hl : 0 ≤ a1 ∧ a1 < 2 := by omega
    have go : ∀ q v, B 12 0 3 a1 = q → Bm 14 0 5 a1 = v → 0 ≤ v ∧ v < 3 → ((q = p0 ∧ v = w0) ∨ (q = p1 ∧ v = w1)) → SLD K q v F B Fm Bm → ∃ r1 F1 B1 r2 F2 B2, f_S_play K 0 a1 a2 F B = some (r1, F1, B1) ∧ f_M_play Km a1 a2 Fm Bm = some (r2, F2, B2) ∧ IV (cc + 1000) Km K F1 B1 F2 B2 ∧ r1 = r2 := fun q v eq ev hv hc hs => by
      have x1 := C_at (K := K) (F := F) h12 hl eq
      rcases hs with ⟨q0, m0⟩ | ⟨q0, m0, V, hP, hM, hD⟩
      · have x3 := L_at (Km := Km) (F := Fm) hl ev hv (Or.inl m0)
        rw [if_pos m0] at x3
        exact ⟨_, _, _, _, _, _, outC q q0 x1, outL x3, hI, rfl⟩
      have x3 := L_at (Km := Km) (F := Fm) hl ev hv (Or.inr m0)
      rw [if_neg (by first | decide | omega)] at x3
      have hq := hP.1.1
      obtain ⟨d10, d11, d9, dr, ds, dp, dz⟩ := hD
      rcases d10 with z10 | z10
      · refine ⟨-1, F, B, -1, Fm, Bm, ?_, ?_, hI, rfl⟩
        · unfold f_S_play f_S_play_33 f_S_performanceOf f_S_performanceOf_17 f_S_performanceOf_25
          rw [if_pos ⟨(by first | decide | omega), h12⟩, if_pos ⟨(by first | decide | omega), h12⟩, x1, zb_s, if_neg (by first | decide | omega), if_pos hq, z10, if_pos (by decide), if_pos rfl, zb_s, x1, zb_s, if_pos (by decide)]
        · unfold f_M_play f_M_play_28
          rw [x3, zb_s, if_neg (by first | decide | omega), if_pos hv, dz z10, if_pos (by decide), if_pos rfl]
      obtain ⟨z11, c, pfd⟩ := dp z10
      obtain ⟨s0', sdr⟩ := ds z11
      have hs : 0 ≤ F 6 q 9 ∧ F 6 q 9 < K.2 5 := ⟨s0', d9⟩
      obtain ⟨S, eS⟩ : ∃ S, S = F 6 q 9 := ⟨_, rfl⟩
      have rw9 := dr s0'
      rw [← eS] at s0' sdr hs d9 pfd rw9
      have pf : f_S_performanceOf K 0 a1 F B = some (S, F, B) := by
        unfold f_S_performanceOf f_S_performanceOf_25
        rw [if_pos ⟨(by first | decide | omega), h12⟩, x1, zb_s, if_neg (by first | decide | omega), if_pos hq, z10, if_pos (by decide), if_neg (by decide), eS]
      have c53 := pfd.2.1
      by_cases b1 : a2 < 0 ∨ 1000 < a2
      · refine ⟨-1, F, B, -1, Fm, Bm, ?_, ?_, hI, rfl⟩
        · unfold f_S_play f_S_play_33
          rw [if_pos ⟨(by first | decide | omega), h12⟩, pf, zb_s, x1, zb_s, if_neg (by first | decide | omega), if_neg (by first | decide | omega), if_pos h2]
          by_cases b2 : a2 < 0
          · rw [if_pos b2]
          · rw [if_neg b2, if_neg (by first | decide | omega)]
        · unfold f_M_play f_M_play_28
          rw [x3, zb_s, if_neg (by first | decide | omega), if_pos hv, c53.1, if_pos (by decide), if_neg (by decide), if_pos h2]
          by_cases b2 : a2 < 0
          · rw [if_pos b2]
          · rw [if_neg b2, if_neg (by first | decide | omega)]
      -- it plays
      have px := hU.2.2.1 S hs.1 hs.2
      have pm := hU.2.2.2.2.2.1 v hv.1 hv.2 (by rw [c53.1]; decide)
      have hTQ := hU.2.2.2.2.2.2
      have hG : ∀ j, 0 ≤ j → j < c → B 5 S 340 j < V := by
        obtain ⟨Fx, Bx, _, _, _, ga, _⟩ := SDR_ga (Km := Km) (by have := hA.2.1; omega) sdr hE.2.1
        rcases ga with ⟨_, _, _, _, g5⟩ | ⟨g1, _⟩
        · intro j j0 j1
          exact (g5 j j0 (by rw [pfd.1.2.1]; exact j1)).2.2.2.2.2.2.2
        · have := pfd.1.1; omega
      have hSB : SB S c B := pfd.2.2.1
      have h55 := pfd.2.2.2.1
      have vh : ∀ j, 0 ≤ j → j < c → (0 ≤ B 6 q 0 (B 5 S 340 j) ∧ B 6 q 0 (B 5 S 340 j) < K.2 4) ∧ (F 4 (B 6 q 0 (B 5 S 340 j)) 2 = Bm 13 v 9 (B 5 S 340 j) ∧ 0 ≤ F 4 (B 6 q 0 (B 5 S 340 j)) 2 ∧ F 4 (B 6 q 0 (B 5 S 340 j)) 2 ≤ 3) := fun j j0 j1 => by
        have k := (hP.2.2 (B 5 S 340 j) (hSB j j0 j1).1.1 (hG j j0 j1)).1
        exact ⟨k.1, k.2.2.2.1⟩
      obtain ⟨r, F', B', e, er, f, b, f2, f3, fC⟩ := C_play (n := a2) hK hs hq hP.2.1.2.2.2.2.1.2 (by have := px.1; omega) ⟨px.2.2.1, px.2.2.2.1, px.2.2.2.2⟩ (by first | decide | omega) ⟨pfd.1.2.1, pfd.1.2.2⟩ hSB (fun j j0 j1 => ⟨(vh j j0 j1).1, (vh j j0 j1).2.2⟩)
      have hmx : MXh v c Fm Bm := by
        refine ⟨hv, ⟨c53.2.1, pfd.1.2.2⟩, by rw [← hP.2.1.2.2.2.2.1.1]; exact hP.2.1.2.2.2.2.1.2, fun j j0 j1 => ?_⟩
        obtain ⟨k1, k2, k3, k4, k5⟩ := h55 j j0 j1
        obtain ⟨a0, a1', a2', a3', a4, a5, a6⟩ := hSB j j0 j1
        have k := (vh j j0 j1).2
        rw [k1, k2, k3, k4, k5, ← k.1]
        exact ⟨⟨a4, a5, a6⟩, a2', a3', a0, k.2⟩
      obtain ⟨r', Fm', Bm', e', er', g, m, g2, g3, gC⟩ := L_pl33 (K := Km) (n := a2) (P := Fm 13 v 65) (by have := hA.2.1; omega) hTQ hmx (by first | decide | omega) (by have := pm.1; omega) a2.toNat Km 0 Fm Bm (by first | decide | omega) (by decide) (by have := hA.2.1; omega) (fun _ _ _ _ => rfl) (fun _ _ _ _ _ => rfl) (by first | decide | omega) ⟨pm.2.2.1, pm.2.2.2.1, pm.2.2.2.2⟩
      have e6 : ∀ k, F' 6 q k = F 6 q k := fun k => f 6 q k (by first | decide | omega)
      have hD' : PD K V q v F' B' Fm' Bm' := by
        refine ⟨Or.inr (by rw [e6]; exact z10), Or.inr (by rw [e6]; exact z11), by rw [e6, ← eS]; exact d9, fun _ => ?_, fun _ => ⟨by rw [e6, ← eS]; exact s0', ?_⟩, fun _ => ⟨by rw [e6]; exact z11, c, ?_⟩, fun y => by rw [e6] at y; omega⟩
        · rw [e6, ← eS]
          unfold rwS at *
          rw [f 5 S 8 (by first | decide | omega), f 5 S 9 (by first | decide | omega)]; exact rw9
        · rw [e6, ← eS]
          exact SDR_e sdr ⟨f 5 S 0 (by first | decide | omega), f 5 S 1 (by first | decide | omega)⟩ (fun k x hk => b 5 S k x (by first | decide | omega)) (fun k a b => g 13 v k (by first | decide | omega)) (fun k x hk => m 13 v k x (by first | decide | omega))
        · rw [e6, ← eS]
          exact PFD_p pfd rw9 (fun k hk => f 5 S k (by first | decide | omega)) (fun k x hk => b 5 S k x (by first | decide | omega)) (fun k hk => g 13 v k (by first | decide | omega)) (fun k x h0 h1 => m 13 v k x (by first | decide | omega)) (by rw [f2, g2, pfd.2.2.2.2.2.2])
      have hU' : IU (cc + 1000) K F' B' Fm' Bm' := by
        have hm := IU_mono (cd := cc + 1000) (by first | decide | omega) hU
        refine IU_f hm (IKn_f hm.1.2 rfl rfl rfl rfl (fun y k _ _ _ => f 6 y k (by first | decide | omega))) rfl rfl (fun l _ _ => ⟨Or.inl (f 2 l 0 (by first | decide | omega)), f 2 l 4 (by first | decide | omega), fun k x => b 2 l k x (by first | decide | omega)⟩) (fun x x0 x1 => ?_) (fun t _ _ => ⟨fun k => f 9 t k (by first | decide | omega), fun k x => b 9 t k x (by first | decide | omega)⟩) (fun y _ y1 => Or.inr ⟨y1, f 6 y 13 (by first | decide | omega), f 6 y 12 (by first | decide | omega)⟩) (fun i i0 i1 z => ?_) (fun k x hk => m 14 0 k x (by first | decide | omega))
        · by_cases ex : x = S
          · rw [ex]
            unfold PXu
            rw [f2, f3]
            exact ⟨by have := px.1; omega, (by first | decide | omega), fC.1, fC.2.1, fC.2.2⟩
          · exact PXu_e (hm.2.2.1 x x0 x1) (fun k _ => f 5 x k (by first | decide | omega))
        · by_cases ei : i = v
          · rw [ei]
            unfold PMu
            rw [g2, g3]
            exact ⟨by have := pm.1; omega, (by first | decide | omega), gC.1, gC.2.1, gC.2.2⟩
          · rw [g 13 i 53 (by first | decide | omega)] at z
            exact PMu_e (hm.2.2.2.2.2.1 i i0 i1 z) (fun k k0 k1 => g 13 i k (by first | decide | omega))
      refine ⟨r, F', B', r', Fm', Bm', ?_, ?_, ⟨p, p0, p1, w, w0, w1, IE_pf (s := S) hE hc hP hM m0 rfl hs (Or.inl ⟨eS, rfl⟩) (by rw [e6, eS]) (fun c y k _ _ n => f c y k (by first | decide | omega)) (fun c y k x _ n => b c y k x (by first | decide | omega)) (fun c y k _ n => g c y k (by first | decide | omega)) (fun c y k x _ n => m c y k x (by first | decide | omega)) hD' hU', ?_, ?_, ?_, ?_, hK⟩, by rw [er, er', pfd.2.2.2.2.2.2]⟩
      · unfold f_S_play
        rw [if_pos ⟨(by first | decide | omega), h12⟩, pf, zb_s, x1, zb_s, if_neg (by first | decide | omega), if_neg (by first | decide | omega), if_pos h2, if_neg (by first | decide | omega), if_pos (by first | decide | omega), if_pos hs, if_pos hq, e, zb_s]
      · unfold f_M_play
        rw [x3, zb_s, if_neg (by first | decide | omega), if_pos hv, c53.1, if_pos (by decide), if_neg (by decide), if_pos h2, if_neg (by first | decide | omega), if_pos (by first | decide | omega)]
        exact e'
      · have e1 : F' 0 1 1 = F 0 1 1 := f 0 1 1 (by first | decide | omega)
        refine ⟨by rw [e1, g 14 0 71 (by first | decide | omega)]; exact hW.1, by rw [e1]; exact hW.2.1, fun j j0 j1 => ?_⟩
        rw [e1] at j1
        rw [b 0 1 0 j (by first | decide | omega), m 14 0 70 j (by first | decide | omega)]; exact hW.2.2 j j0 j1
      · exact IOp_g hO rfl (f 12 0 8 (by first | decide | omega)) (f 12 0 9 (by first | decide | omega)) (fun o k _ => f 8 o k (by first | decide | omega)) (fun o k x _ => b 8 o k x (by first | decide | omega)) (g 14 0 72 (by first | decide | omega)) (fun k x hk => m 14 0 k x (by first | decide | omega))
      · rw [f 7 0 4 (by first | decide | omega)]; exact h7
      · intro y y0 y1
        rw [b 12 0 1 y (by first | decide | omega), m 14 0 4 y (by first | decide | omega)]; exact hX y y0 y1
    have : a1 = 0 ∨ a1 = 1 := by omega
    rcases this with e | e
    · exact go p0 w0 (by rw [e]; exact n2) (by rw [e]; exact n5) hWw.2.1 (Or.inl ⟨rfl, rfl⟩) (SLD_of s0 hE.2.2.2.1)
    · exact go p1 w1 (by rw [e]; exact n3) (by rw [e]; exact n6) hWw.2.2.1 (Or.inr ⟨rfl, rfl⟩) (SLD_of s1 hE.2.2.2.2.1)
theorem p_play {Km : Nat} (a1 a2 : Int) (h1 : r32 a1) (h2 : r32 a2) (hcc : cc ≤ 900000) {K : zK} {F Fm : zF} {B Bm : zB} (h : IV cc Km K F B Fm Bm) : ∃ r1 F1 B1 r2 F2 B2, f_S_play K 0 a1 a2 F B = some (r1, F1, B1) ∧ f_M_play Km a1 a2 Fm Bm = some (r2, F2, B2) ∧ IV (cc + 1000) Km K F1 B1 F2 B2 := by
  obtain ⟨r1, F1, B1, r2, F2, B2, x1, x2, x3, _⟩ := q_play a1 a2 h1 h2 hcc h
  exact ⟨r1, F1, B1, r2, F2, B2, x1, x2, x3⟩
end
end
section
section
/-! ===== the call of note ===== -/
variable {cc : Int}
theorem p_note {Km : Nat} (a1 a2 a3 a4 : Int) (h1 : r32 a1) (h2 : r32 a2) (h3 : r32 a3) (h4 : r32 a4) {K : zK} {F Fm : zF} {B Bm : zB} (h : IV cc Km K F B Fm Bm) : ∃ r1 F1 B1 r2 F2 B2, f_S_note K 0 a1 a2 a3 a4 F B = some (r1, F1, B1) ∧ f_M_note_0 Km a1 a2 a3 a4 Fm Bm = some (r2, F2, B2) ∧ IV cc Km K F1 B1 F2 B2 := by
  refine rd2 h ?_ (L_noteR h1 h2 h3 h4 h)
  have hK := (IV_k h).1
  obtain ⟨x, y, e, e1, e2, e3, e4⟩ := prt h h1 h2
  unfold f_S_note f_S_note_38 f_S_note_89
  rw [if_pos (IV_12 h), e1, zb_s]
  rcases e4 with ⟨x0, _⟩ | ⟨_, x0, y0, z0, q, V, vV, ex, hP, _⟩
  · exact zR_i (fun _ => zR_s) (fun a => absurd x0 a)
  obtain ⟨_, m, g, hV, _⟩ := hP.2.2 a2 z0.1 vV
  rw [← ex] at hV
  obtain ⟨_, _, _, _, _, _, _, _, c, nw, qn, gb⟩ := hV
  have c0 := nw.1
  have n10 := nw.2.1
  refine zR_i (fun _ => zR_s) (fun _ => zR_g h3 (zR_i (fun _ => zR_s) (fun n3 => zR_g x0 (zR_g (by rw [n10]; unfold r32; omega) (zR_i (fun _ => zR_s) (fun l3 => zR_g h4 (zR_i (fun _ => zR_s) (fun n4 => zR_i (fun l4 => ?_) (fun _ => zR_s)))))))))
  rw [n10] at l3
  obtain ⟨k0, k1, k9, k4, k5, _⟩ := nw.2.2.2.2 a3 (by first | decide | omega) (by first | decide | omega)
  obtain ⟨g9, g10, g6, g7, g8, g11⟩ := gb a3 (by first | decide | omega) (by first | decide | omega)
  refine zR_i (fun _ => zR_g (by first | decide | omega) (zR_b (C_above (by first | decide | omega) ⟨k9.1, k9.2.1⟩) (fun _ => zR_s))) (fun n2 => zR_i (fun _ => zR_g (by first | decide | omega) (zR_b (C_below (by first | decide | omega) ⟨k9.1, k9.2.1⟩) (fun _ => zR_s))) (fun n3' => zR_g (by first | decide | omega) (zR_g (by first | decide | omega) (zR_g ?_ zR_s))))
  have o : a4 = 0 ∨ a4 = 1 ∨ a4 = 4 ∨ a4 = 5 ∨ a4 = 6 ∨ a4 = 7 ∨ a4 = 8 ∨ a4 = 9 ∨ a4 = 10 ∨ a4 = 11 := by omega
  rcases o with rfl | rfl | rfl | rfl | rfl | rfl | rfl | rfl | rfl | rfl
  · show r32 (B 4 x 360 a3); unfold r32; omega
  · show r32 (B 4 x 361 a3); unfold r32; omega
  · show r32 (B 4 x 364 a3); unfold r32; omega
  · show r32 (B 4 x 365 a3); unfold r32; omega
  · exact g6
  · exact g7
  · exact g8
  · show r32 (B 4 x 369 a3); unfold r32; omega
  · exact g10
  · exact g11
end
end
section
section
/-! ===== lines: the class's side, columns ===== -/
def LBl (l : Int) (B : zB) : Prop := ∀ j, r64 (B 2 l 1 j) ∧ (0 ≤ B 2 l 2 j ∧ B 2 l 2 j ≤ 200) ∧ (0 ≤ B 2 l 5 j ∧ B 2 l 5 j ≤ 3200) ∧ (0 ≤ B 2 l 6 j ∧ B 2 l 6 j ≤ 640006) ∧ (0 ≤ B 2 l 7 j ∧ B 2 l 7 j ≤ 100) ∧ (0 ≤ B 2 l 8 j ∧ B 2 l 8 j ≤ 100000000) ∧ (0 ≤ B 2 l 10 j ∧ B 2 l 10 j ≤ 1152921504606846976) ∧ (0 ≤ B 2 l 11 j ∧ B 2 l 11 j ≤ 100) ∧ (0 ≤ B 2 l 12 j ∧ B 2 l 12 j ≤ 800)
def lyF (l : Int) (F F' : zF) : Prop := ∀ c y k, ¬ (c = 2 ∧ y = l ∧ (k = 0 ∨ k = 4)) → F' c y k = F c y k
def lyB (l : Int) (B B' : zB) : Prop := ∀ c y k x, ¬ (c = 2 ∧ y = l) → B' c y k x = B c y k x
theorem lyF_r {l : Int} {F : zF} : lyF l F F := fun _ _ _ _ => rfl
theorem lyB_r {l : Int} {B : zB} : lyB l B B := fun _ _ _ _ _ => rfl
theorem lyF_t {l : Int} {F F1 F2 : zF} (h : lyF l F F1) (h' : lyF l F1 F2) : lyF l F F2 := fun c y k n => by rw [h' c y k n, h c y k n]
theorem lyB_t {l : Int} {B B1 B2 : zB} (h : lyB l B B1) (h' : lyB l B1 B2) : lyB l B B2 := fun c y k x n => by rw [h' c y k x n, h c y k x n]
theorem lyF_w {l x : Int} {F : zF} {k : Nat} (hk : k = 0 ∨ k = 4) : lyF l F (zup3 F 2 l k x) := fun c y j n => by rw [zup3_v, if_neg (by first | decide | omega)]
theorem lyB_w {l i x : Int} {B : zB} {k : Nat} : lyB l B (zup4 B 2 l k i x) := fun c y j z n => by rw [zup4_v, if_neg (by first | decide | omega)]
theorem up_b {P : Int → Prop} {B : zB} {l i x j : Int} {k r : Nat} (hx : r = k → P x) (h : P (B 2 l r j)) : P (zup4 B 2 l k i x 2 l r j) := by
  rw [zup4_v]
  split
  · rename_i q; exact hx q.2.2.1
  · exact h
theorem up_o {B : zB} {l i x j : Int} {k r : Nat} (hk : ¬ r = k) : zup4 B 2 l k i x 2 l r j = B 2 l r j := by rw [zup4_v, if_neg (by first | decide | omega)]
theorem up_j {B : zB} {l i x j : Int} {k r : Nat} (hj : ¬ j = i) : zup4 B 2 l k i x 2 l r j = B 2 l r j := by rw [zup4_v, if_neg (by first | decide | omega)]
theorem up_s {B : zB} {l i x : Int} {k : Nat} : zup4 B 2 l k i x 2 l k i = x := by rw [zup4_v, if_pos ⟨rfl, rfl, rfl, rfl⟩]
theorem LB_w {l i x : Int} {B : zB} {k : Nat} (h : LBl l B) (x1 : k = 1 → r64 x) (x2 : k = 2 → 0 ≤ x ∧ x ≤ 200) (x5 : k = 5 → 0 ≤ x ∧ x ≤ 3200) (x6 : k = 6 → 0 ≤ x ∧ x ≤ 640006) (x7 : k = 7 → 0 ≤ x ∧ x ≤ 100) (x8 : k = 8 → 0 ≤ x ∧ x ≤ 100000000) (x10 : k = 10 → 0 ≤ x ∧ x ≤ 1152921504606846976) (x11 : k = 11 → 0 ≤ x ∧ x ≤ 100) (x12 : k = 12 → 0 ≤ x ∧ x ≤ 800) : LBl l (zup4 B 2 l k i x) := fun j => by
  obtain ⟨a1, a2, a5, a6, a7, a8, a10, a11, a12⟩ := h j
  exact ⟨up_b (P := r64) (fun q => x1 q.symm) a1, up_b (P := fun v => 0 ≤ v ∧ v ≤ 200) (fun q => x2 q.symm) a2, up_b (P := fun v => 0 ≤ v ∧ v ≤ 3200) (fun q => x5 q.symm) a5, up_b (P := fun v => 0 ≤ v ∧ v ≤ 640006) (fun q => x6 q.symm) a6, up_b (P := fun v => 0 ≤ v ∧ v ≤ 100) (fun q => x7 q.symm) a7, up_b (P := fun v => 0 ≤ v ∧ v ≤ 100000000) (fun q => x8 q.symm) a8, up_b (P := fun v => 0 ≤ v ∧ v ≤ 1152921504606846976) (fun q => x10 q.symm) a10, up_b (P := fun v => 0 ≤ v ∧ v ≤ 100) (fun q => x11 q.symm) a11, up_b (P := fun v => 0 ≤ v ∧ v ≤ 800) (fun q => x12 q.symm) a12⟩
/-- a piece as its lines want it -/
def PQl (K : zK) (V p : Int) (F : zF) (B : zB) : Prop := (0 ≤ p ∧ p < K.2 6) ∧ (F 6 p 1 = V ∧ 1 ≤ V ∧ V ≤ 4) ∧ (-7 ≤ F 6 p 2 ∧ F 6 p 2 ≤ 7) ∧ (1 ≤ F 6 p 4 ∧ F 6 p 4 ≤ 12) ∧ (F 6 p 5 = 2 ∨ F 6 p 5 = 4 ∨ F 6 p 5 = 8 ∨ F 6 p 5 = 16) ∧ (0 ≤ F 6 p 7 ∧ F 6 p 7 ≤ 100) ∧ ∀ u, 0 ≤ u → u < V → (0 ≤ B 6 p 0 u ∧ B 6 p 0 u < K.2 4) ∧ (0 ≤ F 4 (B 6 p 0 u) 10 ∧ F 4 (B 6 p 0 u) 10 ≤ 800) ∧ ∀ i, 0 ≤ i → i < F 4 (B 6 p 0 u) 10 → (0 ≤ B 4 (B 6 p 0 u) 361 i ∧ B 4 (B 6 p 0 u) 361 i ≤ 100) ∧ (0 ≤ B 4 (B 6 p 0 u) 9 i ∧ B 4 (B 6 p 0 u) 9 i ≤ 1000000000000) ∧ (0 ≤ B 4 (B 6 p 0 u) 365 i ∧ B 4 (B 6 p 0 u) 365 i ≤ 2) ∧ r32 (B 4 (B 6 p 0 u) 367 i)
theorem PQ_f {K : zK} {V p l : Int} {F F' : zF} {B B' : zB} (h : PQl K V p F B) (f : lyF l F F') (b : lyB l B B') : PQl K V p F' B' := by
  have f6 : ∀ k, F' 6 p k = F 6 p k := fun k => f 6 p k (by first | decide | omega)
  have b6 : ∀ x, B' 6 p 0 x = B 6 p 0 x := fun x => b 6 p 0 x (by first | decide | omega)
  have f4 : ∀ q k, F' 4 q k = F 4 q k := fun q k => f 4 q k (by first | decide | omega)
  have b4 : ∀ q k x, B' 4 q k x = B 4 q k x := fun q k x => b 4 q k x (by first | decide | omega)
  unfold PQl at *
  simp only [f6, b6, f4, b4]
  exact h
section
variable {K : zK} {V p l : Int}
theorem C_lead {F : zF} {B : zB} {a : Int} (h : PQl K V p F B) (ha : r32 a) : ∃ r, f_Layout_lead K p a F B = some (r, F, B) ∧ 0 ≤ r ∧ r ≤ 100 := by
  obtain ⟨hp, _, h2, _⟩ := h
  have za : 0 ≤ zabs (F 6 p 2) ∧ zabs (F 6 p 2) ≤ 7 := by unfold zabs; split <;> omega
  unfold f_Layout_lead f_Layout_lead_22
  rw [if_pos hp, if_pos (by unfold r32; omega), if_pos ha]
  by_cases c : a = 0
  · rw [if_pos c]; exact ⟨_, rfl, (by first | decide | omega), (by first | decide | omega)⟩
  · rw [if_neg c]; exact ⟨_, rfl, (by first | decide | omega), (by first | decide | omega)⟩
theorem C_begI {F : zF} {B : zB} {u i b : Int} (h : PQl K V p F B) (u0 : 0 ≤ u) (u1 : u < V) (i0 : 0 ≤ i ∧ i ≤ 800) (rb : r32 b) : ∃ r, f_Layout_beginsIn K (B 6 p 0 u) i b F B = some (r, F, B) ∧ (r = 0 ∨ (r = 1 ∧ i < F 4 (B 6 p 0 u) 10)) := by
  obtain ⟨hq, hc, hi⟩ := h.2.2.2.2.2.2 u u0 u1
  unfold f_Layout_beginsIn f_Layout_beginsIn_24 f_Layout_beginsIn_25
  rw [if_pos hq, if_pos (by unfold r32; omega), if_pos (by unfold r32; omega)]
  by_cases c : F 4 (B 6 p 0 u) 10 ≤ i
  · rw [if_pos c, if_pos (Or.inl rfl)]; exact ⟨0, rfl, Or.inl rfl⟩
  · have k := (hi i i0.1 (by first | decide | omega)).1
    rw [if_neg c, if_pos (by first | decide | omega), if_pos (by unfold r32; omega), if_pos rb]
    by_cases c' : B 4 (B 6 p 0 u) 361 i = b
    · rw [if_pos c', if_pos (Or.inr rfl)]; exact ⟨1, rfl, Or.inr ⟨rfl, (by first | decide | omega)⟩⟩
    · rw [if_neg c', if_pos (Or.inl rfl)]; exact ⟨0, rfl, Or.inl rfl⟩
theorem C_np {F : zF} {B : zB} {b : Int} (h : PQl K V p F B) (hl : 0 ≤ l ∧ l < K.2 2) (hB : LBl l B) (rb : r32 b) : ∀ (d N : Nat) (u v : Int), u + d = V → 0 ≤ u → d < N → (-1 ≤ v ∧ v ≤ 1000000000000) → ∃ r, f_Layout_nextPlace_7 K N u v l p b F B = some (r, F, B) ∧ -1 ≤ r ∧ r ≤ 1000000000000 := by
  have hV := h.2.1
  intro d
  induction d with
  | zero =>
    intro N u v hu u0 hN hv
    obtain ⟨n, rfl⟩ : ∃ n, N = n + 1 := ⟨N - 1, (by first | decide | omega)⟩
    rw [f_Layout_nextPlace_7, if_pos h.1, if_pos (by unfold r32; omega), if_pos (by unfold r32; omega), if_pos (by first | decide | omega)]
    exact ⟨v, rfl, hv⟩
  | succ d ih =>
    intro N u v hu u0 hN hv
    obtain ⟨n, rfl⟩ : ∃ n, N = n + 1 := ⟨N - 1, (by first | decide | omega)⟩
    obtain ⟨hq, hc, hi⟩ := h.2.2.2.2.2.2 u u0 (by first | decide | omega)
    have b12 := (hB u).2.2.2.2.2.2.2.2
    obtain ⟨r, e, r01⟩ := C_begI h u0 (by first | decide | omega) (i := B 2 l 12 u) b12 rb
    have nxt : ∀ v', (-1 ≤ v' ∧ v' ≤ 1000000000000) → ∃ r, f_Layout_nextPlace_79 (f_Layout_nextPlace_7 K n) K u v' l p b F B = some (r, F, B) ∧ -1 ≤ r ∧ r ≤ 1000000000000 := fun v' hv' => ih n (u + 1) v' (by first | decide | omega) (by first | decide | omega) (by first | decide | omega) hv'
    rw [f_Layout_nextPlace_7, if_pos h.1, if_pos (by unfold r32; omega), if_pos (by unfold r32; omega), if_neg (by first | decide | omega), if_pos (by first | decide | omega), if_pos hl, if_pos hq, e, zb_s, if_pos (by unfold r32; omega)]
    by_cases c : r = 0
    · rw [if_pos c]; exact nxt v hv
    have k9 := (hi (B 2 l 12 u) b12.1 (by first | decide | omega)).2.1
    have o65 : ∃ r, f_Layout_nextPlace_65 (f_Layout_nextPlace_7 K n) K (B 6 p 0 u) u l p b F B = some (r, F, B) ∧ -1 ≤ r ∧ r ≤ 1000000000000 := by
      unfold f_Layout_nextPlace_65
      rw [if_pos hq, if_pos hl, if_pos (by first | decide | omega), if_pos (by first | decide | omega)]
      exact nxt _ (by first | decide | omega)
    rw [if_neg c, if_pos (by unfold r64; omega)]
    by_cases c1 : zcmp v 0 < 0
    · rw [if_pos c1]; exact o65
    rw [if_neg c1, if_pos (by first | decide | omega), if_pos (by unfold r64; omega)]
    by_cases c2 : 0 ≤ zcmp (B 4 (B 6 p 0 u) 9 (B 2 l 12 u)) v
    · rw [if_pos c2]; exact nxt v hv
    · rw [if_neg c2]; exact o65
theorem C_ac34 {F : zF} {b v : Int} (hl : 0 ≤ l ∧ l < K.2 2) (hF : 0 ≤ F 2 l 4 ∧ F 2 l 4 < 3200) (rb : r32 b) (hv : -1 ≤ v ∧ v ≤ 1000000000000) : ∀ (d N : Nat) (u l6 l5 : Int) (B : zB), u + d = V → 0 ≤ u → d < N → (0 ≤ l6 ∧ l6 ≤ 2) → (l5 = 0 ∨ l5 = 6) → PQl K V p F B → LBl l B → ∃ B', f_Layout_addColumn_34 K N u l6 l5 v l p b F B = some (1, F, B') ∧ LBl l B' ∧ lyB l B B' ∧ (∀ x, B' 2 l 5 x = B 2 l 5 x ∧ B' 2 l 6 x = B 2 l 6 x) ∧ B' 2 l 2 (F 2 l 4) ≤ 40 ∧ ∀ x, ¬ x = F 2 l 4 → B' 2 l 2 x = B 2 l 2 x := by
  intro d
  induction d with
  | zero =>
    intro N u l6 l5 B hu u0 hN h6 h5 h hB
    obtain ⟨n, rfl⟩ : ∃ n, N = n + 1 := ⟨N - 1, (by first | decide | omega)⟩
    have hV := h.2.1
    rw [f_Layout_addColumn_34, if_pos h.1, if_pos (by unfold r32; omega), if_pos (by unfold r32; omega), if_pos (by first | decide | omega), if_pos hl, if_pos hF]
    refine ⟨_, rfl, LB_w (LB_w hB (fun _ => by unfold r64; omega) (by first | decide | omega) (by first | decide | omega) (by first | decide | omega) (by first | decide | omega) (by first | decide | omega) (by first | decide | omega) (by first | decide | omega) (by first | decide | omega)) (by first | decide | omega) (by first | decide | omega) (by first | decide | omega) (by first | decide | omega) (by first | decide | omega) (by first | decide | omega) (by first | decide | omega) (by first | decide | omega) (by first | decide | omega), lyB_t lyB_w lyB_w, fun x => ⟨by rw [up_o (by decide), up_o (by decide)], by rw [up_o (by decide), up_o (by decide)]⟩, by rw [up_s]; omega, fun x hx => by rw [up_j hx, up_o (by decide)]⟩
  | succ d ih =>
    intro N u l6 l5 B hu u0 hN h6 h5 h hB
    obtain ⟨n, rfl⟩ : ∃ n, N = n + 1 := ⟨N - 1, (by first | decide | omega)⟩
    have hV := h.2.1
    obtain ⟨hq, hc, hi⟩ := h.2.2.2.2.2.2 u u0 (by first | decide | omega)
    have b12 := (hB u).2.2.2.2.2.2.2.2
    obtain ⟨r, e, r01⟩ := C_begI h u0 (by first | decide | omega) (i := B 2 l 12 u) b12 rb
    rw [f_Layout_addColumn_34, if_pos h.1, if_pos (by unfold r32; omega), if_pos (by unfold r32; omega), if_neg (by first | decide | omega), if_pos (by first | decide | omega), if_pos hl, if_pos hq, e, zb_s, if_pos (by unfold r32; omega)]
    have same : ∀ l6' l5', (0 ≤ l6' ∧ l6' ≤ 2) → (l5' = 0 ∨ l5' = 6) → ∃ B', f_Layout_addColumn_136 (f_Layout_addColumn_34 K n) K u l6' l5' v l p b F B = some (1, F, B') ∧ LBl l B' ∧ lyB l B B' ∧ (∀ x, B' 2 l 5 x = B 2 l 5 x ∧ B' 2 l 6 x = B 2 l 6 x) ∧ B' 2 l 2 (F 2 l 4) ≤ 40 ∧ ∀ x, ¬ x = F 2 l 4 → B' 2 l 2 x = B 2 l 2 x := fun l6' l5' q6 q5 => ih n (u + 1) l6' l5' B (by first | decide | omega) (by first | decide | omega) (by first | decide | omega) q6 q5 h hB
    by_cases c : r = 0
    · rw [if_pos c]; exact same l6 l5 h6 h5
    obtain ⟨k1, k9, k5, k7⟩ := hi (B 2 l 12 u) b12.1 (by first | decide | omega)
    rw [if_neg c, if_pos (by first | decide | omega), if_pos (by unfold r64; omega), if_pos (by unfold r64; omega)]
    by_cases c1 : zcmp (B 4 (B 6 p 0 u) 9 (B 2 l 12 u)) v = 0
    · rw [if_pos c1, if_pos k7]
      have zm : 0 ≤ zmax l6 (B 4 (B 6 p 0 u) 365 (B 2 l 12 u)) ∧ zmax l6 (B 4 (B 6 p 0 u) 365 (B 2 l 12 u)) ≤ 2 := by unfold zmax; split <;> omega
      have o106 : ∀ l5', (l5' = 0 ∨ l5' = 6) → ∃ B', f_Layout_addColumn_106 (f_Layout_addColumn_34 K n) K (B 2 l 12 u) (B 6 p 0 u) u l6 v l p b l5' F B = some (1, F, B') ∧ LBl l B' ∧ lyB l B B' ∧ (∀ x, B' 2 l 5 x = B 2 l 5 x ∧ B' 2 l 6 x = B 2 l 6 x) ∧ B' 2 l 2 (F 2 l 4) ≤ 40 ∧ ∀ x, ¬ x = F 2 l 4 → B' 2 l 2 x = B 2 l 2 x := fun l5' q5 => by
        unfold f_Layout_addColumn_106
        rw [if_pos hq, if_pos (by first | decide | omega), if_pos (by unfold r32; omega), if_pos (by unfold r32; omega), if_pos hl, if_pos (by first | decide | omega)]
        have hB1 := LB_w (i := u) (x := B 2 l 12 u + 1) (k := 12) hB (by first | decide | omega) (by first | decide | omega) (by first | decide | omega) (by first | decide | omega) (by first | decide | omega) (by first | decide | omega) (by first | decide | omega) (by first | decide | omega) (by first | decide | omega)
        obtain ⟨B', g1, g2, g3, g4, g5, g6⟩ := ih n (u + 1) _ l5' (zup4 B 2 l 12 u (B 2 l 12 u + 1)) (by first | decide | omega) (by first | decide | omega) (by first | decide | omega) zm q5 (PQ_f h lyF_r lyB_w) hB1
        exact ⟨B', g1, g2, lyB_t lyB_w g3, fun x => ⟨by rw [(g4 x).1, up_o (by decide)], by rw [(g4 x).2, up_o (by decide)]⟩, g5, fun x hx => by rw [g6 x hx, up_o (by decide)]⟩
      by_cases c2 : B 4 (B 6 p 0 u) 367 (B 2 l 12 u) = 0
      · rw [if_pos c2]; exact o106 l5 h5
      · rw [if_neg c2]; exact o106 6 (Or.inr rfl)
    · rw [if_neg c1]; exact same l6 l5 h6 h5
theorem C_addC {F : zF} {B : zB} {b : Int} (hK : 60000 ≤ K.1) (h : PQl K V p F B) (hl : 0 ≤ l ∧ l < K.2 2) (hB : LBl l B) (hF : 0 ≤ F 2 l 4 ∧ F 2 l 4 ≤ 3200) (rb : r32 b) : ∃ r B', f_Layout_addColumn K l p b F B = some (r, F, B') ∧ LBl l B' ∧ lyB l B B' ∧ (∀ x, B' 2 l 5 x = B 2 l 5 x ∧ B' 2 l 6 x = B 2 l 6 x) ∧ ((r = 0 ∧ B' = B) ∨ (r = 1 ∧ F 2 l 4 < 3200 ∧ B' 2 l 2 (F 2 l 4) ≤ 40 ∧ ∀ x, ¬ x = F 2 l 4 → B' 2 l 2 x = B 2 l 2 x)) := by
  have hV := h.2.1
  obtain ⟨r, e, r0, r1⟩ := C_np h hl hB rb V.toNat K.1 0 (-1) (by first | decide | omega) (by decide) (by first | decide | omega) (by first | decide | omega)
  have e' : f_Layout_nextPlace K l p b F B = some (r, F, B) := e
  unfold f_Layout_addColumn f_Layout_addColumn_23
  rw [if_pos hl, e', zb_s, if_pos (by unfold r64; omega)]
  by_cases c : zcmp r 0 < 0
  · rw [if_pos c]; exact ⟨0, B, rfl, hB, lyB_r, fun x => ⟨rfl, rfl⟩, Or.inl ⟨rfl, rfl⟩⟩
  rw [if_neg c, if_pos (by unfold r32; omega)]
  by_cases c1 : F 2 l 4 < 3200
  · rw [if_pos c1]
    obtain ⟨B', g1, g2, g3, g4, g5, g6⟩ := C_ac34 (V := V) (p := p) (F := F) hl ⟨hF.1, c1⟩ rb ⟨r0, r1⟩ V.toNat K.1 0 0 0 B (by first | decide | omega) (by decide) (by first | decide | omega) (by first | decide | omega) (Or.inl rfl) h hB
    exact ⟨1, B', g1, g2, g3, g4, Or.inr ⟨rfl, c1, g5, g6⟩⟩
  · rw [if_neg c1]; exact ⟨0, B, rfl, hB, lyB_r, fun x => ⟨rfl, rfl⟩, Or.inl ⟨rfl, rfl⟩⟩
theorem C_wd57 {F : zF} {j b : Int} {rec : Int → Int → Int → zF → zB → zO} (hl : 0 ≤ l ∧ l < K.2 2) (hj : 0 ≤ j ∧ j < 3200) : ∀ (d N : Nat) (i v : Int) (B : zB), i + d = 40 → 0 ≤ i → d < N → r64 v → LBl l B → B 2 l 2 j ≤ 40 + 4 * i → ∃ B', f_Layout_widen_57 rec K N i v j l b F B = f_Layout_widen_98 rec K j l b F B' ∧ LBl l B' ∧ lyB l B B' ∧ (∀ k x, ¬ k = 2 → B' 2 l k x = B 2 l k x) ∧ ∀ x, ¬ x = j → B' 2 l 2 x = B 2 l 2 x := by
  intro d
  induction d with
  | zero =>
    intro N i v B hi i0 hN rv hB h2
    obtain ⟨n, rfl⟩ : ∃ n, N = n + 1 := ⟨N - 1, (by first | decide | omega)⟩
    rw [f_Layout_widen_57, if_pos (by unfold r32; omega), if_pos (by first | decide | omega)]
    exact ⟨B, rfl, hB, lyB_r, fun _ _ _ => rfl, fun _ _ => rfl⟩
  | succ d ih =>
    intro N i v B hi i0 hN rv hB h2
    obtain ⟨n, rfl⟩ : ∃ n, N = n + 1 := ⟨N - 1, (by first | decide | omega)⟩
    rw [f_Layout_widen_57, if_pos (by unfold r32; omega), if_neg (by first | decide | omega), if_pos rv]
    by_cases c : zcmp v 2 < 0
    · rw [if_pos c]; exact ⟨B, rfl, hB, lyB_r, fun _ _ _ => rfl, fun _ _ => rfl⟩
    rw [if_neg c, if_pos hl, if_pos hj]
    have b2 := (hB j).2.1
    obtain ⟨B', g1, g2, g3, g4, g5⟩ := ih n (i + 1) (zldv v 2) (zup4 B 2 l 2 j (B 2 l 2 j + 4)) (by first | decide | omega) (by first | decide | omega) (by first | decide | omega) (toL_R _) (LB_w hB (by first | decide | omega) (by first | decide | omega) (by first | decide | omega) (by first | decide | omega) (by first | decide | omega) (by first | decide | omega) (by first | decide | omega) (by first | decide | omega) (by first | decide | omega)) (by rw [up_s]; omega)
    exact ⟨B', g1, g2, lyB_t lyB_w g3, fun k x hk => by rw [g4 k x hk, up_o hk], fun x hx => by rw [g5 x hx, up_j hx]⟩
theorem C_wd3 {F : zF} {b : Int} (hK : 60000 ≤ K.1) (hl : 0 ≤ l ∧ l < K.2 2) (hF : 0 ≤ F 2 l 4 ∧ F 2 l 4 ≤ 3200) : ∀ (d N : Nat) (j : Int) (B : zB), F 2 l 4 ≤ j + d → 0 ≤ j → j ≤ 3200 → d < N → LBl l B → (∀ x, j ≤ x → x < F 2 l 4 → B 2 l 2 x ≤ 40) → ∃ B', f_Layout_widen_3 K N j l b F B = some (0, F, B') ∧ LBl l B' ∧ lyB l B B' ∧ ∀ k x, ¬ k = 2 → B' 2 l k x = B 2 l k x := by
  intro d
  induction d with
  | zero =>
    intro N j B hj j0 j1 hN hB h2
    obtain ⟨n, rfl⟩ : ∃ n, N = n + 1 := ⟨N - 1, (by first | decide | omega)⟩
    rw [f_Layout_widen_3, if_pos hl, if_pos (by unfold r32; omega), if_pos (by unfold r32; omega), if_pos (by first | decide | omega)]
    exact ⟨B, rfl, hB, lyB_r, fun _ _ _ => rfl⟩
  | succ d ih =>
    intro N j B hj j0 j1 hN hB h2
    obtain ⟨n, rfl⟩ : ∃ n, N = n + 1 := ⟨N - 1, (by first | decide | omega)⟩
    rw [f_Layout_widen_3, if_pos hl, if_pos (by unfold r32; omega), if_pos (by unfold r32; omega)]
    by_cases c : F 2 l 4 ≤ j
    · rw [if_pos c]; exact ⟨B, rfl, hB, lyB_r, fun _ _ _ => rfl⟩
    have o : ∀ s, ∃ B', f_Layout_widen_36 (f_Layout_widen_3 K n) K j l b s F B = some (0, F, B') ∧ LBl l B' ∧ lyB l B B' ∧ ∀ k x, ¬ k = 2 → B' 2 l k x = B 2 l k x := fun s => by
      obtain ⟨B1, g1, g2, g3, g4, g5⟩ := C_wd57 (F := F) (j := j) (b := b) (rec := f_Layout_widen_3 K n) hl (by first | decide | omega) 40 K.1 0 (zldv (s - B 2 l 1 j) 6350400) B (by first | decide | omega) (by decide) (by first | decide | omega) (toL_R _) hB (by have := h2 j (Int.le_refl _) (by first | decide | omega); omega)
      obtain ⟨B2, k1, k2, k3, k4⟩ := ih n (j + 1) B1 (by first | decide | omega) (by first | decide | omega) (by first | decide | omega) (by first | decide | omega) g2 (fun x x0 x1 => by rw [g5 x (by first | decide | omega)]; exact h2 x (by first | decide | omega) x1)
      unfold f_Layout_widen_36
      rw [if_pos hl, if_pos (by first | decide | omega), g1, f_Layout_widen_98, k1]
      exact ⟨B2, rfl, k2, lyB_t g3 k3, fun k x hk => by rw [k4 k x hk, g4 k x hk]⟩
    rw [if_neg c, if_pos (by unfold r32; omega)]
    by_cases c1 : F 2 l 4 ≤ j + 1
    · rw [if_pos c1]; exact o b
    · rw [if_neg c1, if_pos (by first | decide | omega)]; exact o _
theorem C_sc108 {F : zF} {a nb : Int} {rec : Int → Int → Int → Int → zF → zB → zO} (hl : 0 ≤ l ∧ l < K.2 2) (hF : 0 ≤ F 2 l 4 ∧ F 2 l 4 ≤ 3200) (ha : 0 ≤ a ∧ a < 100) : ∀ (d N : Nat) (j : Int) (B : zB), F 2 l 4 ≤ j + d → 0 ≤ j → j ≤ 3200 → d < N → LBl l B → B 2 l 6 a ≤ 6 + 200 * j → ∃ B', f_Layout_setColumns_108 rec K N j a l p nb F B = rec (a + 1) l p nb F B' ∧ LBl l B' ∧ lyB l B B' := by
  intro d
  induction d with
  | zero =>
    intro N j B hj j0 j1 hN hB h6
    obtain ⟨n, rfl⟩ : ∃ n, N = n + 1 := ⟨N - 1, (by first | decide | omega)⟩
    rw [f_Layout_setColumns_108, if_pos hl, if_pos (by unfold r32; omega), if_pos (by unfold r32; omega), if_pos (by first | decide | omega)]
    exact ⟨B, rfl, hB, lyB_r⟩
  | succ d ih =>
    intro N j B hj j0 j1 hN hB h6
    obtain ⟨n, rfl⟩ : ∃ n, N = n + 1 := ⟨N - 1, (by first | decide | omega)⟩
    rw [f_Layout_setColumns_108, if_pos hl, if_pos (by unfold r32; omega), if_pos (by unfold r32; omega)]
    by_cases c : F 2 l 4 ≤ j
    · rw [if_pos c]; exact ⟨B, rfl, hB, lyB_r⟩
    have b2 := (hB j).2.1
    have b6 := (hB a).2.2.2.1
    rw [if_neg c, if_pos ha, if_pos (by first | decide | omega)]
    obtain ⟨B', g1, g2, g3⟩ := ih n (j + 1) (zup4 B 2 l 6 a (B 2 l 6 a + B 2 l 2 j)) (by first | decide | omega) (by first | decide | omega) (by first | decide | omega) (by first | decide | omega) (LB_w hB (by first | decide | omega) (by first | decide | omega) (by first | decide | omega) (by first | decide | omega) (by first | decide | omega) (by first | decide | omega) (by first | decide | omega) (by first | decide | omega) (by first | decide | omega)) (by rw [up_s]; omega)
    exact ⟨B', g1, g2, lyB_t lyB_w g3⟩
end
end
end
section
section
/-! ===== lines: the class's side, whole ===== -/
section
variable {K : zK} {V p l : Int}
theorem C_sc45 {a nb : Int} {F0 : zF} {B0 : zB} {rec : Int → Int → Int → Int → zF → zB → zO} (hK : 60000 ≤ K.1) (h : PQl K V p F0 B0) (hl : 0 ≤ l ∧ l < K.2 2) (ra : r32 a) : ∀ (d N : Nat) (i s : Int) (F : zF) (B : zB), i + d = 3200 → 0 ≤ i → d < N → lyF l F0 F → lyB l B0 B → LBl l B → (0 ≤ F 2 l 4 ∧ F 2 l 4 ≤ 3200) → F 2 l 0 = F0 2 l 0 → B 2 l 5 a = s → s ≤ F 2 l 4 → (∀ x, s ≤ x → x < F 2 l 4 → B 2 l 2 x ≤ 40) → ∃ F' B', f_Layout_setColumns_45 rec K N i a l p nb F B = f_Layout_setColumns_78 rec K a l p nb F' B' ∧ lyF l F0 F' ∧ lyB l B0 B' ∧ LBl l B' ∧ (0 ≤ F' 2 l 4 ∧ F' 2 l 4 ≤ 3200) ∧ F' 2 l 0 = F0 2 l 0 ∧ B' 2 l 5 a = s ∧ (∀ x, s ≤ x → x < F' 2 l 4 → B' 2 l 2 x ≤ 40) := by
  intro d
  induction d with
  | zero =>
    intro N i s F B hi i0 hN f b hB h4 h0 h5 hs h2
    obtain ⟨n, rfl⟩ : ∃ n, N = n + 1 := ⟨N - 1, (by first | decide | omega)⟩
    rw [f_Layout_setColumns_45, if_pos (by unfold r32; omega), if_pos (by first | decide | omega)]
    exact ⟨F, B, rfl, f, b, hB, h4, h0, h5, h2⟩
  | succ d ih =>
    intro N i s F B hi i0 hN f b hB h4 h0 h5 hs h2
    obtain ⟨n, rfl⟩ : ∃ n, N = n + 1 := ⟨N - 1, (by first | decide | omega)⟩
    obtain ⟨r, B1, e, g2, g3, g4, g5⟩ := C_addC (b := a) hK (PQ_f h f b) hl hB h4 ra
    rw [f_Layout_setColumns_45, if_pos (by unfold r32; omega), if_neg (by first | decide | omega), if_pos hl, e, zb_s, if_pos (by unfold r32; omega)]
    rcases g5 with ⟨r0, eB⟩ | ⟨r1, l4, q1, q2⟩
    · rw [if_pos r0, eB]
      exact ⟨F, B, rfl, f, b, hB, h4, h0, h5, h2⟩
    · rw [if_neg (by first | decide | omega)]
      refine ih n (i + 1) s _ B1 (by first | decide | omega) (by first | decide | omega) (by first | decide | omega) (lyF_t f (lyF_w (by first | decide | omega))) (lyB_t b g3) g2 (by rw [zup3_v, if_pos ⟨rfl, rfl, rfl⟩]; omega) (by rw [zup3_v, if_neg (by first | decide | omega)]; exact h0) (by rw [(g4 a).1]; exact h5) (by rw [zup3_v, if_pos ⟨rfl, rfl, rfl⟩]; omega) (fun x x0 x1 => ?_)
      rw [zup3_v, if_pos ⟨rfl, rfl, rfl⟩] at x1
      by_cases ex : x = F 2 l 4
      · rw [ex]; exact q1
      · rw [q2 x ex]; exact h2 x x0 (by first | decide | omega)
theorem C_sc27 {nb : Int} {F0 : zF} {B0 : zB} (hK : 60000 ≤ K.1) (h : PQl K V p F0 B0) (hl : 0 ≤ l ∧ l < K.2 2) (hn : 0 ≤ nb ∧ nb ≤ 100) : ∀ (d N : Nat) (a : Int) (F : zF) (B : zB), a + d = nb → 0 ≤ a → d < N → lyF l F0 F → lyB l B0 B → LBl l B → (0 ≤ F 2 l 4 ∧ F 2 l 4 ≤ 3200) → F 2 l 0 = F0 2 l 0 → ∃ F' B', f_Layout_setColumns_27 K N a l p nb F B = some (0, F', B') ∧ lyF l F0 F' ∧ lyB l B0 B' ∧ LBl l B' ∧ (0 ≤ F' 2 l 4 ∧ F' 2 l 4 ≤ 3200) ∧ F' 2 l 0 = F0 2 l 0 := by
  intro d
  induction d with
  | zero =>
    intro N a F B ha a0 hN f b hB h4 h0
    obtain ⟨n, rfl⟩ : ∃ n, N = n + 1 := ⟨N - 1, (by first | decide | omega)⟩
    rw [f_Layout_setColumns_27, if_pos (by unfold r32; omega), if_pos (by unfold r32; omega), if_pos (by first | decide | omega), if_pos hl, if_pos (by first | decide | omega)]
    exact ⟨F, _, rfl, f, lyB_t b lyB_w, LB_w hB (by first | decide | omega) (by first | decide | omega) (by first | decide | omega) (by first | decide | omega) (by first | decide | omega) (by first | decide | omega) (by first | decide | omega) (by first | decide | omega) (by first | decide | omega), h4, h0⟩
  | succ d ih =>
    intro N a F B ha a0 hN f b hB h4 h0
    obtain ⟨n, rfl⟩ : ∃ n, N = n + 1 := ⟨N - 1, (by first | decide | omega)⟩
    have hB1 : LBl l (zup4 B 2 l 5 a (F 2 l 4)) := LB_w hB (by first | decide | omega) (by first | decide | omega) (by first | decide | omega) (by first | decide | omega) (by first | decide | omega) (by first | decide | omega) (by first | decide | omega) (by first | decide | omega) (by first | decide | omega)
    obtain ⟨F1, B1, e, g1, g2, g3, g4, g5, g6, g7⟩ := C_sc45 (a := a) (nb := nb) (rec := f_Layout_setColumns_27 K n) hK h hl (by unfold r32; omega) 3200 K.1 0 (F 2 l 4) F (zup4 B 2 l 5 a (F 2 l 4)) (by first | decide | omega) (by decide) (by first | decide | omega) f (lyB_t b lyB_w) hB1 h4 h0 up_s (Int.le_refl _) (fun x x0 x1 => (by first | decide | omega))
    have hq := PQ_f h g1 g2
    have hbl := C_bar (K := K) (p := p) (F := F1) (B := B1) hq.1 rfl rfl hq.2.2.2.1 hq.2.2.2.2.1
    obtain ⟨B2, w1, w2, w3, w4⟩ := C_wd3 (F := F1) (b := barV (F1 6 p 4) (F1 6 p 5)) hK hl g4 3200 K.1 (F 2 l 4) B1 (by first | decide | omega) h4.1 h4.2 (by first | decide | omega) g3 g7
    have w1' : f_Layout_widen K l (F 2 l 4) (barV (F1 6 p 4) (F1 6 p 5)) F1 B1 = some (0, F1, B2) := w1
    have hB3 : LBl l (zup4 B2 2 l 6 a 6) := LB_w w2 (by first | decide | omega) (by first | decide | omega) (by first | decide | omega) (by first | decide | omega) (by first | decide | omega) (by first | decide | omega) (by first | decide | omega) (by first | decide | omega) (by first | decide | omega)
    have e5 : (zup4 B2 2 l 6 a 6) 2 l 5 a = F 2 l 4 := by rw [up_o (by decide), w4 5 a (by decide)]; exact g6
    obtain ⟨B4, x1, x2, x3⟩ := C_sc108 (F := F1) (p := p) (a := a) (nb := nb) (rec := f_Layout_setColumns_27 K n) hl g4 (by first | decide | omega) 3200 K.1 (F 2 l 4) (zup4 B2 2 l 6 a 6) (by first | decide | omega) h4.1 h4.2 (by first | decide | omega) hB3 (by rw [up_s]; omega)
    rw [f_Layout_setColumns_27, if_pos (by unfold r32; omega), if_pos (by unfold r32; omega), if_neg (by first | decide | omega), if_pos hl, if_pos (by first | decide | omega), e]
    unfold f_Layout_setColumns_78
    rw [if_pos hl, if_pos (by first | decide | omega), if_pos hq.1, hbl, zb_s, g6, w1', zb_s, if_pos (by first | decide | omega), e5, x1]
    exact ih n (a + 1) F1 B4 (by first | decide | omega) (by first | decide | omega) (by first | decide | omega) g1 (lyB_t g2 (lyB_t w3 (lyB_t lyB_w x3))) x2 g4 g5
theorem C_sc7 {nb : Int} {F : zF} (hl : 0 ≤ l ∧ l < K.2 2) : ∀ (d N : Nat) (i : Int) (B : zB), i + d = 4 → 0 ≤ i → d < N → LBl l B → ∃ B', f_Layout_setColumns_7 K N i l p nb F B = f_Layout_setColumns_27 K K.1 0 l p nb F B' ∧ lyB l B B' ∧ LBl l B' := by
  intro d
  induction d with
  | zero =>
    intro N i B hi i0 hN hB
    obtain ⟨n, rfl⟩ : ∃ n, N = n + 1 := ⟨N - 1, (by first | decide | omega)⟩
    rw [f_Layout_setColumns_7, if_pos (by unfold r32; omega), if_pos (by first | decide | omega)]
    exact ⟨B, rfl, lyB_r, hB⟩
  | succ d ih =>
    intro N i B hi i0 hN hB
    obtain ⟨n, rfl⟩ : ∃ n, N = n + 1 := ⟨N - 1, (by first | decide | omega)⟩
    rw [f_Layout_setColumns_7, if_pos (by unfold r32; omega), if_neg (by first | decide | omega), if_pos hl, if_pos (by first | decide | omega)]
    obtain ⟨B', g1, g2, g3⟩ := ih n (i + 1) (zup4 B 2 l 12 i 0) (by first | decide | omega) (by first | decide | omega) (by first | decide | omega) (LB_w hB (by first | decide | omega) (by first | decide | omega) (by first | decide | omega) (by first | decide | omega) (by first | decide | omega) (by first | decide | omega) (by first | decide | omega) (by first | decide | omega) (by first | decide | omega))
    exact ⟨B', g1, lyB_t lyB_w g2, g3⟩
theorem C_setC {nb : Int} {F : zF} {B : zB} (hK : 60000 ≤ K.1) (h : PQl K V p F B) (hl : 0 ≤ l ∧ l < K.2 2) (hn : 0 ≤ nb ∧ nb ≤ 100) (hB : LBl l B) : ∃ F' B', f_Layout_setColumns K l p nb F B = some (0, F', B') ∧ lyF l F F' ∧ lyB l B B' ∧ LBl l B' ∧ (0 ≤ F' 2 l 4 ∧ F' 2 l 4 ≤ 3200) ∧ F' 2 l 0 = F 2 l 0 := by
  obtain ⟨B1, e, g1, g2⟩ := C_sc7 (p := p) (nb := nb) (F := zup3 F 2 l 4 0) hl 4 K.1 0 B (by first | decide | omega) (by decide) (by first | decide | omega) hB
  unfold f_Layout_setColumns
  rw [if_pos hl, e]
  obtain ⟨F2, B2, k1, k2, k3, k4, k5, k6⟩ := C_sc27 (F0 := zup3 F 2 l 4 0) (B0 := B1) hK (PQ_f h (lyF_w (by first | decide | omega)) g1) hl hn nb.toNat K.1 0 (zup3 F 2 l 4 0) B1 (by first | decide | omega) (by decide) (by first | decide | omega) lyF_r lyB_r g2 (by rw [zup3_v, if_pos ⟨rfl, rfl, rfl⟩]; omega) rfl
  exact ⟨F2, B2, k1, lyF_t (lyF_w (by first | decide | omega)) k2, lyB_t g1 k3, k4, k5, by rw [k6, zup3_v, if_neg (by first | decide | omega)]⟩
theorem C_price {F : zF} {B : zB} {a b t : Int} (ha : 0 ≤ a ∧ a ≤ 2000) (hb : 0 ≤ b ∧ b ≤ 100000000) (ht : r32 t) : ∃ r, f_Layout_price K a b t F B = some (r, F, B) ∧ 0 ≤ r ∧ r ≤ 40000000000000000 := by
  unfold f_Layout_price f_Layout_price_34
  rw [if_pos (by unfold r64; omega), if_pos (by unfold r64; omega)]
  by_cases c : zcmp b a ≤ 0
  · have hba : b ≤ a := by unfold zcmp at c; split at c <;> omega
    have m1 : 0 ≤ (a - b) * (a - b) := Int.mul_nonneg (by first | decide | omega) (by first | decide | omega)
    have m2 : (a - b) * (a - b) ≤ 2000 * 2000 := Int.mul_le_mul (by first | decide | omega) (by first | decide | omega) (by first | decide | omega) (by first | decide | omega)
    rw [if_pos c, if_pos ht]
    by_cases c' : t = 0
    · rw [if_pos c']; exact ⟨_, rfl, m1, (by first | decide | omega)⟩
    · rw [if_neg c']; exact ⟨_, rfl, (by first | decide | omega), (by first | decide | omega)⟩
  · have hba : a < b := by unfold zcmp at c; split at c <;> omega
    have m1 : 0 ≤ 4 * (b - a) * (b - a) := Int.mul_nonneg (by first | decide | omega) (by first | decide | omega)
    have m2 : 4 * (b - a) * (b - a) ≤ 400000000 * 100000000 := Int.mul_le_mul (by first | decide | omega) (by first | decide | omega) (by first | decide | omega) (by first | decide | omega)
    rw [if_neg c]; exact ⟨_, rfl, m1, (by first | decide | omega)⟩
theorem C_ch41 {F : zF} {nb a wd : Int} {rec : Int → Int → Int → Int → Int → zF → zB → zO} (hl : 0 ≤ l ∧ l < K.2 2) (hn : 0 ≤ nb ∧ nb ≤ 100) (ha : 0 ≤ a ∧ a ≤ 100) (hw : 0 ≤ wd ∧ wd ≤ 2000) : ∀ (d N : Nat) (j v : Int) (B : zB), nb + 1 ≤ j + d → 1 ≤ j → j ≤ 101 → d < N → (0 ≤ v ∧ v ≤ 100 + 640006 * j) → LBl l B → ∃ B', f_Layout_choose_41 rec K N j v a l p nb wd F B = f_Layout_choose_145 rec K a l p nb wd F B' ∧ lyB l B B' ∧ LBl l B' := by
  intro d
  induction d with
  | zero =>
    intro N j v B hj j0 j1 hN hv hB
    obtain ⟨n, rfl⟩ : ∃ n, N = n + 1 := ⟨N - 1, (by first | decide | omega)⟩
    rw [f_Layout_choose_41, if_pos (by unfold r32; omega), if_pos (by unfold r32; omega), if_pos (by first | decide | omega)]
    exact ⟨B, rfl, lyB_r, hB⟩
  | succ d ih =>
    intro N j v B hj j0 j1 hN hv hB
    obtain ⟨n, rfl⟩ : ∃ n, N = n + 1 := ⟨N - 1, (by first | decide | omega)⟩
    rw [f_Layout_choose_41, if_pos (by unfold r32; omega), if_pos (by unfold r32; omega)]
    by_cases c : nb < j
    · rw [if_pos c]; exact ⟨B, rfl, lyB_r, hB⟩
    have b6 := (hB (j - 1)).2.2.2.1
    rw [if_neg c, if_pos hl, if_pos (by first | decide | omega)]
    generalize hx : v + B 2 l 6 (j - 1) = x at *
    have nxt : ∀ B1, LBl l B1 → ∃ B', f_Layout_choose_139 rec (f_Layout_choose_41 rec K n) K x j a l p nb wd F B1 = f_Layout_choose_145 rec K a l p nb wd F B' ∧ lyB l B1 B' ∧ LBl l B' := fun B1 hB1 => ih n (j + 1) x B1 (by first | decide | omega) (by first | decide | omega) (by first | decide | omega) (by first | decide | omega) (by first | decide | omega) hB1
    have o95 : ∀ t, r32 t → ∃ B', f_Layout_choose_95 rec (f_Layout_choose_41 rec K n) K x j a l p nb wd wd x t F B = f_Layout_choose_145 rec K a l p nb wd F B' ∧ lyB l B B' ∧ LBl l B' := fun t ht => by
      obtain ⟨r, e, r0, r1⟩ := C_price (K := K) (F := F) (B := B) hw (b := x) (by first | decide | omega) ht
      have p1 := (hB j).2.2.2.2.2.2.1
      have p2 := (hB a).2.2.2.2.2.2.1
      unfold f_Layout_choose_95
      rw [e, zb_s, if_pos hl, if_pos (by first | decide | omega), if_pos (by first | decide | omega), if_pos (by unfold r64; omega), if_pos (by unfold r64; omega)]
      by_cases c1 : 0 < zcmp (r + B 2 l 10 j) (B 2 l 10 a)
      · rw [if_pos c1]; exact nxt B hB
      · have le : r + B 2 l 10 j ≤ B 2 l 10 a := by unfold zcmp at c1; split at c1 <;> omega
        rw [if_neg c1]
        obtain ⟨B', g1, g2, g3⟩ := nxt _ (LB_w (i := a) (x := j) (k := 11) (LB_w (i := a) (x := r + B 2 l 10 j) (k := 10) hB (by first | decide | omega) (by first | decide | omega) (by first | decide | omega) (by first | decide | omega) (by first | decide | omega) (by first | decide | omega) (by first | decide | omega) (by first | decide | omega) (by first | decide | omega)) (by first | decide | omega) (by first | decide | omega) (by first | decide | omega) (by first | decide | omega) (by first | decide | omega) (by first | decide | omega) (by first | decide | omega) (by first | decide | omega) (by first | decide | omega))
        exact ⟨B', g1, lyB_t (lyB_t lyB_w lyB_w) g2, g3⟩
    have o79 : ∃ B', f_Layout_choose_79 rec (f_Layout_choose_41 rec K n) K x j a l p nb wd F B = f_Layout_choose_145 rec K a l p nb wd F B' ∧ lyB l B B' ∧ LBl l B' := by
      unfold f_Layout_choose_79
      rw [if_pos (by unfold r32; omega), if_pos (by unfold r32; omega), if_pos (by unfold r32; omega), if_pos (by unfold r32; omega)]
      by_cases c1 : j = nb
      · rw [if_pos c1]; exact o95 1 (by decide)
      · rw [if_neg c1]; exact o95 0 (by decide)
    rw [if_pos (by unfold r32; omega), if_pos (by unfold r32; omega)]
    by_cases c1 : x ≤ wd
    · rw [if_pos c1]; exact o79
    · rw [if_neg c1, if_pos (by unfold r32; omega)]
      by_cases c2 : j ≤ a + 1
      · rw [if_pos c2]; exact o79
      · rw [if_neg c2]; exact ⟨B, rfl, lyB_r, hB⟩
theorem C_ch12 {F : zF} {nb wd : Int} (hK : 60000 ≤ K.1) (hl : 0 ≤ l ∧ l < K.2 2) (hn : 0 ≤ nb ∧ nb ≤ 100) (hw : 0 ≤ wd ∧ wd ≤ 2000) : ∀ (d N : Nat) (a : Int) (B : zB), a < d → -1 ≤ a → a ≤ 100 → d < N → PQl K V p F B → LBl l B → ∃ B', f_Layout_choose_12 K N a l p nb wd F B = some (0, F, B') ∧ lyB l B B' ∧ LBl l B' := by
  intro d
  induction d with
  | zero =>
    intro N a B ha a0 a1 hN h hB
    obtain ⟨n, rfl⟩ : ∃ n, N = n + 1 := ⟨N - 1, (by first | decide | omega)⟩
    rw [f_Layout_choose_12, if_pos (by unfold r32; omega), if_pos (by first | decide | omega)]
    exact ⟨B, rfl, lyB_r, hB⟩
  | succ d ih =>
    intro N a B ha a0 a1 hN h hB
    obtain ⟨n, rfl⟩ : ∃ n, N = n + 1 := ⟨N - 1, (by first | decide | omega)⟩
    rw [f_Layout_choose_12, if_pos (by unfold r32; omega)]
    by_cases c : a < 0
    · rw [if_pos c]; exact ⟨B, rfl, lyB_r, hB⟩
    obtain ⟨r, e, r0, r1⟩ := C_lead h (a := a) (by unfold r32; omega)
    rw [if_neg c, e, zb_s, if_pos hl, if_pos (by first | decide | omega)]
    have hB1 : LBl l (zup4 B 2 l 10 a 1152921504606846976) := LB_w hB (by first | decide | omega) (by first | decide | omega) (by first | decide | omega) (by first | decide | omega) (by first | decide | omega) (by first | decide | omega) (by first | decide | omega) (by first | decide | omega) (by first | decide | omega)
    obtain ⟨B', g1, g2, g3⟩ := C_ch41 (F := F) (p := p) (nb := nb) (a := a) (wd := wd) (rec := f_Layout_choose_12 K n) hl hn (by first | decide | omega) hw 101 K.1 (a + 1) r _ (by first | decide | omega) (by first | decide | omega) (by first | decide | omega) (by first | decide | omega) (by first | decide | omega) hB1
    rw [g1, f_Layout_choose_145]
    obtain ⟨B2, k1, k2, k3⟩ := ih n (a - 1) B' (by first | decide | omega) (by first | decide | omega) (by first | decide | omega) (by first | decide | omega) (PQ_f h lyF_r (lyB_t lyB_w g2)) g3
    exact ⟨B2, k1, lyB_t lyB_w (lyB_t g2 k2), k3⟩
theorem C_wO {F : zF} {B : zB} {t : Int} (hl : 0 ≤ l ∧ l < K.2 2) (hB : LBl l B) (ht : 0 ≤ t ∧ t ≤ 100) : ∀ (d N : Nat) (j v : Int), t ≤ j + d → 0 ≤ j → j ≤ 100 → d < N → (0 ≤ v ∧ v ≤ 100 + 640006 * j) → ∃ r, f_Layout_widthOf_10 K N j v l t F B = some (r, F, B) ∧ 0 ≤ r ∧ r ≤ 100000000 := by
  intro d
  induction d with
  | zero =>
    intro N j v hj j0 j1 hN hv
    obtain ⟨n, rfl⟩ : ∃ n, N = n + 1 := ⟨N - 1, (by first | decide | omega)⟩
    rw [f_Layout_widthOf_10, if_pos (by unfold r32; omega), if_pos (by unfold r32; omega), if_pos (by first | decide | omega)]
    exact ⟨v, rfl, (by first | decide | omega), (by first | decide | omega)⟩
  | succ d ih =>
    intro N j v hj j0 j1 hN hv
    obtain ⟨n, rfl⟩ : ∃ n, N = n + 1 := ⟨N - 1, (by first | decide | omega)⟩
    rw [f_Layout_widthOf_10, if_pos (by unfold r32; omega), if_pos (by unfold r32; omega)]
    by_cases c : t ≤ j
    · rw [if_pos c]; exact ⟨v, rfl, (by first | decide | omega), (by first | decide | omega)⟩
    · have b6 := (hB j).2.2.2.1
      rw [if_neg c, if_pos hl, if_pos (by first | decide | omega)]
      exact ih n (j + 1) _ (by first | decide | omega) (by first | decide | omega) (by first | decide | omega) (by first | decide | omega) (by first | decide | omega)
theorem C_x108 {F : zF} {a l7 l6 l5 ln : Int} {rec : Int → Int → Int → Int → Int → Int → Int → zF → zB → zO} (hl : 0 ≤ l ∧ l < K.2 2) (ha : 0 ≤ a ∧ a < 100) (h6 : 0 < l6 ∧ l6 ≤ 4000) : ∀ (d N : Nat) (j v : Int) (B : zB), 3200 ≤ j + d → 0 ≤ j → j ≤ 3200 → d < N → LBl l B → ∃ v' B', f_Layout_setXs_108 rec K N j v a l7 l6 l5 l ln F B = rec (a + 1) l7 l6 l5 v' l ln F B' ∧ lyB l B B' ∧ LBl l B' := by
  intro d
  induction d with
  | zero =>
    intro N j v B hj j0 j1 hN hB
    obtain ⟨n, rfl⟩ : ∃ n, N = n + 1 := ⟨N - 1, (by first | decide | omega)⟩
    have b5 := (hB (a + 1)).2.2.1
    rw [f_Layout_setXs_108, if_pos hl, if_pos (by first | decide | omega), if_pos (by unfold r32; omega), if_pos (by unfold r32; omega), if_pos (by first | decide | omega)]
    exact ⟨v, B, rfl, lyB_r, hB⟩
  | succ d ih =>
    intro N j v B hj j0 j1 hN hB
    obtain ⟨n, rfl⟩ : ∃ n, N = n + 1 := ⟨N - 1, (by first | decide | omega)⟩
    have b5 := (hB (a + 1)).2.2.1
    rw [f_Layout_setXs_108, if_pos hl, if_pos (by first | decide | omega), if_pos (by unfold r32; omega), if_pos (by unfold r32; omega)]
    by_cases c : B 2 l 5 (a + 1) ≤ j
    · rw [if_pos c]; exact ⟨v, B, rfl, lyB_r, hB⟩
    · rw [if_neg c, if_pos (iI_n0 h6.1 (by unfold r32; omega)), if_pos (by first | decide | omega)]
      obtain ⟨v', B', g1, g2, g3⟩ := ih n (j + 1) _ _ (by first | decide | omega) (by first | decide | omega) (by first | decide | omega) (by first | decide | omega) (LB_w (k := 3) hB (by first | decide | omega) (by first | decide | omega) (by first | decide | omega) (by first | decide | omega) (by first | decide | omega) (by first | decide | omega) (by first | decide | omega) (by first | decide | omega) (by first | decide | omega))
      exact ⟨v', B', g1, lyB_t lyB_w g2, g3⟩
theorem C_x83 {F : zF} {l7 l6 l5 ln : Int} (hK : 60000 ≤ K.1) (hl : 0 ≤ l ∧ l < K.2 2) (hn : 0 ≤ ln ∧ ln < 100) (h6 : 0 < l6 ∧ l6 ≤ 4000) : ∀ (d N : Nat) (a v : Int) (B : zB), 100 ≤ a + d → 0 ≤ a → a ≤ 100 → d < N → LBl l B → ∃ B', f_Layout_setXs_83 K N a l7 l6 l5 v l ln F B = some (0, F, B') ∧ lyB l B B' ∧ LBl l B' := by
  intro d
  induction d with
  | zero =>
    intro N a v B ha a0 a1 hN hB
    obtain ⟨n, rfl⟩ : ∃ n, N = n + 1 := ⟨N - 1, (by first | decide | omega)⟩
    have b7 := (hB (ln + 1)).2.2.2.2.1
    rw [f_Layout_setXs_83, if_pos hl, if_pos (by first | decide | omega), if_pos (by unfold r32; omega), if_pos (by unfold r32; omega), if_pos (by first | decide | omega)]
    exact ⟨B, rfl, lyB_r, hB⟩
  | succ d ih =>
    intro N a v B ha a0 a1 hN hB
    obtain ⟨n, rfl⟩ : ∃ n, N = n + 1 := ⟨N - 1, (by first | decide | omega)⟩
    have b7 := (hB (ln + 1)).2.2.2.2.1
    rw [f_Layout_setXs_83, if_pos hl, if_pos (by first | decide | omega), if_pos (by unfold r32; omega), if_pos (by unfold r32; omega)]
    by_cases c : B 2 l 7 (ln + 1) ≤ a
    · rw [if_pos c]; exact ⟨B, rfl, lyB_r, hB⟩
    · have b5 := (hB a).2.2.1
      obtain ⟨v', B1, g1, g2, g3⟩ := C_x108 (F := F) (l7 := l7) (l6 := l6) (l5 := l5) (ln := ln) (rec := f_Layout_setXs_83 K n) hl (a := a) (by first | decide | omega) h6 3200 K.1 (B 2 l 5 a) (v + 6) B (by first | decide | omega) b5.1 b5.2 (by first | decide | omega) hB
      rw [if_neg c, if_pos (by first | decide | omega), g1]
      obtain ⟨B', k1, k2, k3⟩ := ih n (a + 1) v' B1 (by first | decide | omega) (by first | decide | omega) (by first | decide | omega) (by first | decide | omega) g3
      exact ⟨B', k1, lyB_t g2 k2, k3⟩
theorem C_setX {F : zF} {B : zB} {ln wd : Int} (hK : 60000 ≤ K.1) (h : PQl K V p F B) (hl : 0 ≤ l ∧ l < K.2 2) (hn : 0 ≤ ln ∧ ln < 100) (hw : 0 ≤ wd ∧ wd ≤ 2000) (hF : 0 ≤ F 2 l 0 ∧ F 2 l 0 ≤ 100) (hB : LBl l B) : ∃ B', f_Layout_setXs K l p ln wd F B = some (0, F, B') ∧ lyB l B B' ∧ LBl l B' := by
  have b7 := (hB ln).2.2.2.2.1
  have b7' := (hB (ln + 1)).2.2.2.2.1
  have b5 := (hB (B 2 l 7 ln)).2.2.1
  have b5' := (hB (B 2 l 7 (ln + 1))).2.2.1
  have b8 := (hB ln).2.2.2.2.2.1
  obtain ⟨r, e, r0, r1⟩ := C_lead h (a := B 2 l 7 ln) (by unfold r32; omega)
  have zm : 0 < zmax (B 2 l 5 (B 2 l 7 (ln + 1)) - B 2 l 5 (B 2 l 7 ln)) 1 ∧ zmax (B 2 l 5 (B 2 l 7 (ln + 1)) - B 2 l 5 (B 2 l 7 ln)) 1 ≤ 4000 := by unfold zmax; split <;> omega
  have o73 : ∀ s, ∃ B', f_Layout_setXs_73 K (zmax (B 2 l 5 (B 2 l 7 (ln + 1)) - B 2 l 5 (B 2 l 7 ln)) 1) (B 2 l 5 (B 2 l 7 ln)) r l ln s F B = some (0, F, B') ∧ lyB l B B' ∧ LBl l B' := fun s => by
    unfold f_Layout_setXs_73
    rw [if_pos hl, if_pos (by first | decide | omega)]
    exact C_x83 hK hl hn zm 100 K.1 _ _ B (by first | decide | omega) b7.1 b7.2 (by first | decide | omega) hB
  unfold f_Layout_setXs
  rw [if_pos hl, if_pos (by first | decide | omega), e, zb_s, if_pos (by first | decide | omega), if_pos (by first | decide | omega), if_pos (by first | decide | omega), if_pos (by unfold r32; omega), if_pos (by unfold r32; omega), if_pos (by unfold r32; omega)]
  by_cases c : F 2 l 0 ≤ ln + 1
  · rw [if_pos c]; exact o73 0
  · rw [if_neg c, if_pos (by first | decide | omega), if_pos (by unfold r32; omega)]; exact o73 _
theorem C_b148 {F : zF} {wd : Int} (hK : 60000 ≤ K.1) (hl : 0 ≤ l ∧ l < K.2 2) (hw : 0 ≤ wd ∧ wd ≤ 2000) (hF : 0 ≤ F 2 l 0 ∧ F 2 l 0 ≤ 100) : ∀ (d N : Nat) (i : Int) (B : zB), F 2 l 0 ≤ i + d → 0 ≤ i → i ≤ 100 → d < N → PQl K V p F B → LBl l B → ∃ B', f_Layout_breakLines_148 K N i l p wd F B = some (F 2 l 0, F, B') ∧ lyB l B B' ∧ LBl l B' := by
  intro d
  induction d with
  | zero =>
    intro N i B hi i0 i1 hN h hB
    obtain ⟨n, rfl⟩ : ∃ n, N = n + 1 := ⟨N - 1, (by first | decide | omega)⟩
    rw [f_Layout_breakLines_148, if_pos hl, if_pos (by unfold r32; omega), if_pos (by unfold r32; omega), if_pos (by first | decide | omega)]
    exact ⟨B, rfl, lyB_r, hB⟩
  | succ d ih =>
    intro N i B hi i0 i1 hN h hB
    obtain ⟨n, rfl⟩ : ∃ n, N = n + 1 := ⟨N - 1, (by first | decide | omega)⟩
    rw [f_Layout_breakLines_148, if_pos hl, if_pos (by unfold r32; omega), if_pos (by unfold r32; omega)]
    by_cases c : F 2 l 0 ≤ i
    · rw [if_pos c]; exact ⟨B, rfl, lyB_r, hB⟩
    · obtain ⟨B1, g1, g2, g3⟩ := C_setX (ln := i) (wd := wd) hK h hl (by first | decide | omega) hw hF hB
      rw [if_neg c, g1, zb_s]
      obtain ⟨B', k1, k2, k3⟩ := ih n (i + 1) B1 (by first | decide | omega) (by first | decide | omega) (by first | decide | omega) (by first | decide | omega) (PQ_f h lyF_r g2) g3
      exact ⟨B', k1, lyB_t g2 k2, k3⟩
theorem C_b34 {wd nb : Int} {F0 : zF} {B0 : zB} (hK : 60000 ≤ K.1) (h : PQl K V p F0 B0) (hl : 0 ≤ l ∧ l < K.2 2) (hw : 0 ≤ wd ∧ wd ≤ 2000) (hn : 0 ≤ nb ∧ nb ≤ 100) : ∀ (d N : Nat) (i a : Int) (F : zF) (B : zB), i + d = 100 → 0 ≤ i → d < N → (0 ≤ a ∧ a ≤ 100) → F 2 l 0 = i → (0 ≤ F 2 l 4 ∧ F 2 l 4 ≤ 3200) → lyF l F0 F → lyB l B0 B → LBl l B → ∃ r F' B', f_Layout_breakLines_34 K N i a nb l p wd F B = some (r, F', B') ∧ lyF l F0 F' ∧ lyB l B0 B' ∧ LBl l B' ∧ (0 ≤ F' 2 l 0 ∧ F' 2 l 0 ≤ 100) ∧ (0 ≤ F' 2 l 4 ∧ F' 2 l 4 ≤ 3200) := by
  have o135 : ∀ (F : zF) (B : zB) (i : Int), 0 ≤ i → i ≤ 100 → F 2 l 0 = i → (0 ≤ F 2 l 4 ∧ F 2 l 4 ≤ 3200) → lyF l F0 F → lyB l B0 B → LBl l B → ∃ r F' B', f_Layout_breakLines_135 K nb l p wd F B = some (r, F', B') ∧ lyF l F0 F' ∧ lyB l B0 B' ∧ LBl l B' ∧ (0 ≤ F' 2 l 0 ∧ F' 2 l 0 ≤ 100) ∧ (0 ≤ F' 2 l 4 ∧ F' 2 l 4 ≤ 3200) := fun F B i i0 i1 h0 h4 f b hB => by
    have hB1 : LBl l (zup4 B 2 l 7 (F 2 l 0) nb) := LB_w hB (by first | decide | omega) (by first | decide | omega) (by first | decide | omega) (by first | decide | omega) (by first | decide | omega) (by first | decide | omega) (by first | decide | omega) (by first | decide | omega) (by first | decide | omega)
    obtain ⟨B', g1, g2, g3⟩ := C_b148 (V := V) (p := p) (F := F) (wd := wd) hK hl hw (by first | decide | omega) 100 K.1 0 (zup4 B 2 l 7 (F 2 l 0) nb) (by first | decide | omega) (by decide) (by first | decide | omega) (by first | decide | omega) (PQ_f h f (lyB_t b lyB_w)) hB1
    unfold f_Layout_breakLines_135
    rw [if_pos hl, if_pos (by first | decide | omega), g1]
    exact ⟨_, F, B', rfl, f, lyB_t b (lyB_t lyB_w g2), g3, (by first | decide | omega), h4⟩
  intro d
  induction d with
  | zero =>
    intro N i a F B hi i0 hN ha h0 h4 f b hB
    obtain ⟨n, rfl⟩ : ∃ n, N = n + 1 := ⟨N - 1, (by first | decide | omega)⟩
    rw [f_Layout_breakLines_34, if_pos (by unfold r32; omega), if_pos (by first | decide | omega)]
    exact o135 F B i i0 (by first | decide | omega) h0 h4 f b hB
  | succ d ih =>
    intro N i a F B hi i0 hN ha h0 h4 f b hB
    obtain ⟨n, rfl⟩ : ∃ n, N = n + 1 := ⟨N - 1, (by first | decide | omega)⟩
    rw [f_Layout_breakLines_34, if_pos (by unfold r32; omega), if_neg (by first | decide | omega), if_pos (by unfold r32; omega), if_pos (by unfold r32; omega)]
    by_cases c : nb ≤ a
    · rw [if_pos c]; exact o135 F B i i0 (by first | decide | omega) h0 h4 f b hB
    have hB1 : LBl l (zup4 B 2 l 7 (F 2 l 0) a) := LB_w hB (by first | decide | omega) (by first | decide | omega) (by first | decide | omega) (by first | decide | omega) (by first | decide | omega) (by first | decide | omega) (by first | decide | omega) (by first | decide | omega) (by first | decide | omega)
    have b11 := (hB1 a).2.2.2.2.2.2.2.1
    obtain ⟨r, e, r0, r1⟩ := C_lead (PQ_f h f (lyB_t b (lyB_w (k := 7) (i := F 2 l 0) (x := a)))) (a := a) (by unfold r32; omega)
    obtain ⟨t, e', t0, t1⟩ := C_wO (F := F) hl hB1 b11 100 K.1 a r (by first | decide | omega) ha.1 ha.2 (by first | decide | omega) (by first | decide | omega)
    rw [if_neg c, if_pos hl, if_pos (by first | decide | omega), if_pos (by first | decide | omega)]
    have eW : f_Layout_widthOf K l p a ((zup4 B 2 l 7 (F 2 l 0) a) 2 l 11 a) F (zup4 B 2 l 7 (F 2 l 0) a) = some (t, F, zup4 B 2 l 7 (F 2 l 0) a) := by
      unfold f_Layout_widthOf
      rw [e, zb_s]; exact e'
    rw [eW, zb_s]
    have bB : lyB l B (zup4 B 2 l 7 (F 2 l 0) a) := lyB_w
    generalize zup4 B 2 l 7 (F 2 l 0) a = B1 at hB1 b11 bB ⊢
    have hB2 : LBl l (zup4 B1 2 l 8 (F 2 l 0) t) := LB_w hB1 (by first | decide | omega) (by first | decide | omega) (by first | decide | omega) (by first | decide | omega) (by first | decide | omega) (by first | decide | omega) (by first | decide | omega) (by first | decide | omega) (by first | decide | omega)
    have b11' := (hB2 a).2.2.2.2.2.2.2.1
    rw [if_pos (by first | decide | omega), if_pos (by first | decide | omega), if_pos (by first | decide | omega)]
    have bC : lyB l B1 (zup4 B1 2 l 8 (F 2 l 0) t) := lyB_w
    generalize zup4 B1 2 l 8 (F 2 l 0) t = B2 at hB2 b11' bC ⊢
    generalize hz : B2 2 l 10 a - B2 2 l 10 (B2 2 l 11 a) = z
    have hB3 : LBl l (zup4 B2 2 l 9 (F 2 l 0) z) := LB_w hB2 (by first | decide | omega) (by first | decide | omega) (by first | decide | omega) (by first | decide | omega) (by first | decide | omega) (by first | decide | omega) (by first | decide | omega) (by first | decide | omega) (by first | decide | omega)
    rw [up_o (by decide)]
    exact ih n (i + 1) _ _ _ (by first | decide | omega) (by first | decide | omega) (by first | decide | omega) b11' (by rw [zup3_v, if_pos ⟨rfl, rfl, rfl⟩]; omega) (by rw [zup3_v, if_neg (by first | decide | omega)]; exact h4) (lyF_t f (lyF_w (by first | decide | omega))) (lyB_t b (lyB_t bB (lyB_t bC lyB_w))) hB3
theorem C_brk {F : zF} {B : zB} {wd : Int} (hK : 60000 ≤ K.1) (h : PQl K V p F B) (hl : 0 ≤ l ∧ l < K.2 2) (hw : 0 ≤ wd ∧ wd ≤ 2000) (hB : LBl l B) : ∃ r F' B', f_Layout_breakLines K l p wd F B = some (r, F', B') ∧ lyF l F F' ∧ lyB l B B' ∧ LXu l F' B' := by
  have h7 := h.2.2.2.2.2.1
  have zm : zmin (F 6 p 7) 100 = F 6 p 7 := by unfold zmin; split <;> omega
  obtain ⟨F1, B1, e1, f1, b1, l1, a4, a0⟩ := C_setC (nb := F 6 p 7) hK h hl h7 hB
  have h1 := PQ_f h f1 b1
  have hB1 : LBl l (zup4 B1 2 l 10 (F 6 p 7) 0) := LB_w l1 (by first | decide | omega) (by first | decide | omega) (by first | decide | omega) (by first | decide | omega) (by first | decide | omega) (by first | decide | omega) (by first | decide | omega) (by first | decide | omega) (by first | decide | omega)
  obtain ⟨B2, e2, b2, l2⟩ := C_ch12 (V := V) (p := p) (F := F1) (nb := F 6 p 7) (wd := wd) hK hl h7 hw 101 K.1 (F 6 p 7 - 1) (zup4 B1 2 l 10 (F 6 p 7) 0) (by first | decide | omega) (by first | decide | omega) (by first | decide | omega) (by first | decide | omega) (PQ_f h1 lyF_r lyB_w) hB1
  have e2' : f_Layout_choose K l p (F 6 p 7) wd F1 B1 = some (0, F1, B2) := by
    unfold f_Layout_choose
    rw [if_pos hl, if_pos (by first | decide | omega)]; exact e2
  obtain ⟨r, F3, B3, e3, f3, b3, l3, c0, c4⟩ := C_b34 (V := V) (p := p) (wd := wd) (nb := F 6 p 7) (F0 := zup3 F1 2 l 0 0) (B0 := B2) hK (PQ_f h1 (lyF_w (by first | decide | omega)) (lyB_t lyB_w b2)) hl hw h7 100 K.1 0 0 (zup3 F1 2 l 0 0) B2 (by first | decide | omega) (by decide) (by first | decide | omega) (by first | decide | omega) (by rw [zup3_v, if_pos ⟨rfl, rfl, rfl⟩]) (by rw [zup3_v, if_neg (by first | decide | omega)]; exact a4) lyF_r lyB_r l2
  unfold f_Layout_breakLines
  rw [zm, if_pos h.1, if_pos (by unfold r32; omega), if_pos hl, e1, zb_s, e2', zb_s, e3]
  exact ⟨r, F3, B3, rfl, lyF_t f1 (lyF_t (lyF_w (by first | decide | omega)) f3), lyB_t b1 (lyB_t (lyB_t lyB_w b2) b3), c0, c4, l3⟩
end
end
end
section
section
/-! ===== a call that makes or fills an object of lines or of study keeps the invariant ===== -/
variable {cc : Int}
theorem PD_e2 {K K' : zK} {V p w : Int} {F F' : zF} {B B' : zB} {Fm Fm' : zF} {Bm Bm' : zB} (h : PD K V p w F B Fm Bm) (hk : K.2 5 ≤ K'.2 5) (f6 : ∀ k, 9 ≤ k → k ≤ 11 → F' 6 p k = F 6 p k) (f5 : 0 ≤ F 6 p 9 → F' 5 (F 6 p 9) = F 5 (F 6 p 9)) (b5 : 0 ≤ F 6 p 9 → B' 5 (F 6 p 9) = B 5 (F 6 p 9)) (fm : ∀ k, k ≤ 7 ∨ k = 53 ∨ k = 54 ∨ k = 60 ∨ k = 65 → Fm' 13 w k = Fm 13 w k) (bm : ∀ k x, k ≤ 35 ∨ (55 ≤ k ∧ k ≤ 64) → Bm' 13 w k x = Bm 13 w k x) : PD K' V p w F' B' Fm' Bm' := by
  obtain ⟨h1, h2, h3, h4, h5, h6, h7⟩ := h
  have e9 := f6 9 (by first | decide | omega) (by first | decide | omega)
  have e10 := f6 10 (by first | decide | omega) (by first | decide | omega)
  have e11 := f6 11 (by first | decide | omega) (by first | decide | omega)
  unfold PD
  rw [e9, e10, e11, fm 53 (by first | decide | omega)]
  refine ⟨h1, h2, (by first | decide | omega), fun z => ?_, fun z => ?_, fun z => ?_, h7⟩
  · have := h4 z
    unfold rwS at *
    rw [f5 z]; exact this
  · obtain ⟨z0, sd⟩ := h5 z
    exact ⟨z0, SDR_e sd ⟨by rw [f5 z0], by rw [f5 z0]⟩ (fun k x _ => by rw [b5 z0]) (fun k a b => fm k (by first | decide | omega)) (fun k x hk => bm k x (by first | decide | omega))⟩
  · obtain ⟨z1, c, hc⟩ := h6 z
    have z0 := (h5 z1).1
    exact ⟨z1, c, PFD_e hc (f5 z0) (b5 z0) (fun k hk => fm k (by first | decide | omega)) (fun k x h0 h1 => bm k x (by first | decide | omega))⟩
theorem IE_ob {cd : Int} {c0 : Nat} {kk' : Nat} {K K' : zK} {Km : Nat} {p p0 p1 w w0 w1 q v s V : Int} {F F' : zF} {B B' : zB} {Fm Fm' : zF} {Bm Bm' : zB} (h : IE cc K Km p p0 p1 w w0 w1 F B Fm Bm) (hq : (q = p0 ∧ v = w0) ∨ (q = p1 ∧ v = w1)) (hP : PK K V q v F B Fm Bm) (hM : MK V v Fm Bm) (m0 : Fm 13 v 0 = 1) (hc0 : (c0 = 2 ∧ kk' = 8) ∨ (c0 = 9 ∧ kk' = 12)) (k1 : K'.1 = K.1) (sb : 0 ≤ s ∧ s < K'.2 c0) (sc : (s = F 6 q kk' ∧ K' = K) ∨ (F 6 q kk' < 0 ∧ s = K.2 c0 ∧ K' = (K.1, zinN K.2 c0))) (e9 : F' 6 q kk' = s) (f : ∀ c y k, y < K.2 c → ¬ (c = 6 ∧ y = q ∧ (k = kk' ∨ k = 13)) → ¬ (c = c0 ∧ y = s) → F' c y k = F c y k) (b : ∀ c y k x, y < K.2 c → ¬ (c = c0 ∧ y = s) → B' c y k x = B c y k x) (g : ∀ c y k, ¬ (c = 14 ∧ y = 0 ∧ k ≤ 1) → ¬ (c = 13 ∧ y = v ∧ (k = 47 ∨ k = 48)) → Fm' c y k = Fm c y k) (m : ∀ c y k x, ¬ (c = 14 ∧ y = 0 ∧ (k = 59 ∨ k = 60)) → ¬ (c = 13 ∧ y = v ∧ 49 ≤ k ∧ k ≤ 52) → Bm' c y k x = Bm c y k x) (hU' : IU cd K' F' B' Fm' Bm') (hL' : LNk q v F' B' Fm' Bm') : IE cd K' Km p p0 p1 w w0 w1 F' B' Fm' Bm' := by
  obtain ⟨⟨⟨a1, a2, a3⟩, hB, ⟨d1, d2, d3, d4, d5, d6, d7⟩, hT, ⟨n1, n2, n3, n4, n5, n6⟩, hW, hQ, hG, hF, s0, s1⟩, t61, hS, e0, e1, hU, l0, l1⟩ := h
  have hq0 := hP.1.1
  have kc : ∀ c, ¬ c = c0 → K'.2 c = K.2 c := fun c hc => by
    rcases sc with ⟨_, z⟩ | ⟨_, _, z⟩
    · rw [z]
    · rw [z]; show zinN K.2 c0 c = K.2 c; rw [zinN_v, if_neg hc]
  have k5 : K.2 c0 ≤ K'.2 c0 := by
    rcases sc with ⟨_, z⟩ | ⟨_, _, z⟩
    · rw [z]; exact Int.le_refl _
    · rw [z]; show K.2 c0 ≤ zinN K.2 c0 c0; rw [zinN_v, if_pos rfl]; omega
  have kk : ∀ c, K.2 c ≤ K'.2 c := fun c => by
    by_cases z : c = c0
    · rw [z]; exact k5
    · rw [kc c z]; exact Int.le_refl _
  have f12 : ∀ k, F' 12 0 k = F 12 0 k := fun k => f 12 0 k (by first | decide | omega) (by first | decide | omega) (by first | decide | omega)
  have f3 : ∀ k, F' 3 0 k = F 3 0 k := fun k => f 3 0 k (by first | decide | omega) (by first | decide | omega) (by first | decide | omega)
  have f6 : ∀ y k, y < K.2 6 → ¬ (y = q ∧ (k = kk' ∨ k = 13)) → F' 6 y k = F 6 y k := fun y k hy n => f 6 y k hy (by first | decide | omega) (by first | decide | omega)
  have f4 : ∀ y k, y < K.2 4 → F' 4 y k = F 4 y k := fun y k hy => f 4 y k hy (by first | decide | omega) (by first | decide | omega)
  have b4 : ∀ y k x, y < K.2 4 → B' 4 y k x = B 4 y k x := fun y k x hy => b 4 y k x hy (by first | decide | omega)
  have b6 : ∀ y k x, y < K.2 6 → B' 6 y k x = B 6 y k x := fun y k x hy => b 6 y k x hy (by first | decide | omega)
  have q1 := kc 1 (by first | decide | omega)
  have q4 := kc 4 (by first | decide | omega)
  have q6 := kc 6 (by first | decide | omega)
  have gs : GS K' B' := by
    have := GS_B d1 (B' := B') (fun p v _ z => b6 p 0 v z) (fun q x _ z => b4 q 5 x z)
    obtain ⟨g1, g2, g3, g4, g5⟩ := this
    refine ⟨fun c hc => ?_, by rw [q6, q4]; exact g2, by rw [q6]; exact g3, by rw [q4, q1]; exact g4, by rw [q4]; exact g5⟩
    have := g1 c hc
    rw [q1, kc c (by first | decide | omega)]
    exact this
  have hi1 : ∀ y i, 0 ≤ y → y < K.2 4 → 0 ≤ i → i < 200 → B 4 y 5 i < K.2 1 := fun y i a b c d => (d1.2.2.2.1 y i a b c d).2
  have hsl : ∀ y u, ¬ u = v → SL K y u F B Fm Bm → SL K' y u F' B' Fm' Bm' := fun y u hu s => SL_e s kk (fun _ hy k hk => f6 y k hy (by first | decide | omega)) (fun _ hy v => b6 y 0 v hy) (fun y k _ hy _ _ _ => ⟨f4 y k hy, fun x => b4 y k x hy⟩) (fun y i k y0 hy _ _ _ i0 i1 => ⟨f 1 _ k (hi1 y i y0 hy i0 i1) (by first | decide | omega) (by first | decide | omega), fun x => b 1 _ k x (hi1 y i y0 hy i0 i1) (by first | decide | omega)⟩) (fun k => g 13 u k (by first | decide | omega) (by first | decide | omega)) (fun k x => m 13 u k x (by first | decide | omega) (by first | decide | omega))
  have hq4 : ∀ u, 0 ≤ u → u < V → (0 ≤ B 6 q 0 u ∧ B 6 q 0 u < K.2 4) := fun u u0 u1 => (hP.2.2 u u0 u1).1.1
  have slq : SL K' q v F' B' Fm' Bm' := by
    refine Or.inr ⟨hq0.1, by rw [g 13 v 0 (by first | decide | omega) (by first | decide | omega)]; exact m0, V, ?_, MK_p hM ⟨g 13 v 7 (by first | decide | omega) (by first | decide | omega), g 13 v 72 (by first | decide | omega) (by first | decide | omega), g 13 v 76 (by first | decide | omega) (by first | decide | omega)⟩ (fun k x hk => m 13 v k x (by first | decide | omega) (by first | decide | omega))⟩
    refine PK_e hP kk (fun k hk => f6 q k hq0.2 (by first | decide | omega)) (by funext u; exact b6 q 0 u hq0.2) (fun u u0 u1 => by funext k; exact f4 _ k (hq4 u u0 u1).2) (fun u u0 u1 => by funext k x; exact b4 _ k x (hq4 u u0 u1).2) (fun u i u0 u1 i0 i1 => ?_) (fun u i u0 u1 i0 i1 => ?_) (fun k hk _ => g 13 v k (by first | decide | omega) (by first | decide | omega)) (fun k x hk => m 13 v k x (by first | decide | omega) (by first | decide | omega))
    · funext k; exact f 1 _ k (hi1 _ i (hq4 u u0 u1).1 (hq4 u u0 u1).2 i0 i1) (by first | decide | omega) (by first | decide | omega)
    · funext k x; exact b 1 _ k x (hi1 _ i (hq4 u u0 u1).1 (hq4 u u0 u1).2 i0 i1) (by first | decide | omega)
  have h5' : K'.2 5 = K.2 5 := kc 5 (by first | decide | omega)
  have hsd : ∀ y u, y < K.2 6 → SDk K y u F B Fm Bm → SDk K' y u F' B' Fm' Bm' := fun y u hy s y0 => by
    have l9 := (hF y y0 hy).2.1
    rw [f6 y 1 hy (by first | decide | omega)]
    refine PD_e2 (s y0) (by first | decide | omega) (fun k _ _ => f6 y k hy (by first | decide | omega)) (fun z => ?_) (fun z => ?_) (fun k hk => g 13 u k (by first | decide | omega) (by first | decide | omega)) (fun k x hk => m 13 u k x (by first | decide | omega) (by first | decide | omega))
    · funext k; exact f 5 _ k l9 (by first | decide | omega) (by first | decide | omega)
    · funext k x; exact b 5 _ k x l9 (by first | decide | omega)
  have m14 : ∀ k, k = 13 ∨ k = 14 ∨ k = 15 ∨ k = 58 ∨ k = 61 → Bm' 14 0 k = Bm 14 0 k := fun k hk => by funext x; exact m 14 0 k x (by first | decide | omega) (by first | decide | omega)
  have ex : ∀ k, (36 ≤ k ∧ k ≤ 46) ∨ 77 ≤ k → ∀ i x, Bm' 13 i k x = Bm 13 i k x := fun k hk i x => m 13 i k x (by first | decide | omega) (by first | decide | omega)
  have fin : (SL K' p0 w0 F' B' Fm' Bm' ∧ SL K' p1 w1 F' B' Fm' Bm') ∧ SDk K' p0 w0 F' B' Fm' Bm' ∧ SDk K' p1 w1 F' B' Fm' Bm' := by
    obtain ⟨⟨z1, z2, z3⟩, z4, z5⟩ := hQ
    rcases hq with ⟨rfl, rfl⟩ | ⟨rfl, rfl⟩
    · exact ⟨⟨slq, hsl p1 w1 (fun e => hW.2.2.2.2.2 e.symm) s1⟩, hsd q v z2 e0, hsd p1 w1 z3 e1⟩
    · exact ⟨⟨hsl p0 w0 hW.2.2.2.2.2 s0, slq⟩, hsd p0 w0 z2 e0, hsd q v z3 e1⟩
  have hT' : IT F' B' Fm' Bm' := by
    obtain ⟨t1, t2, t3, t4, t5⟩ := hT
    have e : F' 0 0 1 = F 0 0 1 := f 0 0 1 (by first | decide | omega) (by first | decide | omega) (by first | decide | omega)
    have eb : ∀ y, B' 0 0 0 y = B 0 0 0 y := fun y => b 0 0 0 y (by first | decide | omega) (by first | decide | omega)
    exact ⟨by rw [e, g 14 0 3 (by first | decide | omega) (by first | decide | omega)]; exact t1, by rw [e]; exact t2, by rw [e]; exact t3, fun y => by rw [eb]; exact t4 y, by funext y; rw [eb, ← t5]; show Bm' 14 0 2 y % 256 = Bm 14 0 2 y % 256; rw [m 14 0 2 y (by first | decide | omega) (by first | decide | omega)]⟩
  have olt : ∀ (c j : Nat) (y : Int), (c = 2 ∧ j = 8) ∨ (c = 9 ∧ j = 12) → 0 ≤ y → y < K.2 6 → F 6 y j < K.2 c := fun c j y hc y0 y1 => by
    have o := hF y y0 y1
    rcases hc with ⟨rfl, rfl⟩ | ⟨rfl, rfl⟩
    · exact o.1
    · exact o.2.2
  have obj : ∀ y, 0 ≤ y → y < K.2 6 → ¬ y = q → ∀ (c j : Nat), (c = 2 ∧ j = 8) ∨ (c = 9 ∧ j = 12) → 0 ≤ F 6 y j → ∀ k, F' c (F 6 y j) k = F c (F 6 y j) k ∧ ∀ x, B' c (F 6 y j) k x = B c (F 6 y j) k x := fun y y0 y1 n c j hc z k => by
    have l := olt c j y hc y0 y1
    have ns : ¬ (c = c0 ∧ F 6 y j = s) := fun ⟨e1, e2⟩ => by
      have ej : j = kk' := by omega
      have e2' : F 6 y kk' = s := by rw [← ej]; exact e2
      rcases sc with ⟨a, _⟩ | ⟨_, a, _⟩
      · exact hS.2 kk' (by first | decide | omega) y q y0 y1 hq0.1 hq0.2 n (by rw [← ej]; exact z) (by rw [e2', a])
      · rw [e1, e2, a] at l
        exact absurd l (Int.lt_irrefl _)
    exact ⟨f c _ k l (by first | decide | omega) ns, fun x => b c _ k x l ns⟩
  have hln : ∀ y u, ¬ u = v → (0 ≤ y → ¬ y = q) → SL K y u F B Fm Bm → LNk y u F B Fm Bm → LNk y u F' B' Fm' Bm' := fun y u hu n s l => by
    by_cases y0 : 0 ≤ y
    · have hy := n y0
      exact LNk_e l s (fun _ hy k hk => f6 y k hy (by first | decide | omega)) (fun _ hy v => b6 y 0 v hy) (fun y k _ hy _ _ _ => ⟨f4 y k hy, fun x => b4 y k x hy⟩) (fun c j hc y0 y1 z k => obj y y0 y1 hy c j hc z k) (fun k hk => g 13 u k (by first | decide | omega) (by first | decide | omega)) (fun k x hk => m 13 u k x (by first | decide | omega) (by first | decide | omega))
    · exact fun h => absurd h y0
  have hLL : LNk p0 w0 F' B' Fm' Bm' ∧ LNk p1 w1 F' B' Fm' Bm' := by
    rcases hq with ⟨rfl, rfl⟩ | ⟨rfl, rfl⟩
    · have n := hW.2.2.2.2.2
      exact ⟨hL', hln p1 w1 (fun e => n e.symm) (fun _ e => hQ.2.2 hq0.1 e.symm) s1 l1⟩
    · have n := hW.2.2.2.2.2
      exact ⟨hln p0 w0 n (fun z => hQ.2.2 z) s0 l0, hL'⟩
  have hkk : ∀ y, 0 ≤ y → y < K.2 6 → F 6 y kk' < K.2 c0 := fun y y0 y1 => by
    have := hF y y0 y1
    rcases hc0 with ⟨rfl, rfl⟩ | ⟨rfl, rfl⟩
    · exact this.1
    · exact this.2.2
  refine ⟨⟨⟨by rw [k1]; exact a1, a2, ?_⟩, ?_, ⟨gs, fun j => by rw [b 10 0 5 j (by first | decide | omega) (by first | decide | omega)]; exact d2 j, fun q s h1 h2 h3 h4 => by rw [b4 q 12 s (by first | decide | omega)]; exact d3 q s h1 (by first | decide | omega) h3 h4, ?_, ?_, ?_, ?_⟩, hT', ⟨by rw [f12 7]; exact n1, by rw [b 12 0 3 0 (by first | decide | omega) (by first | decide | omega)]; exact n2, by rw [b 12 0 3 1 (by first | decide | omega) (by first | decide | omega)]; exact n3, by rw [g 14 0 6 (by first | decide | omega) (by first | decide | omega)]; exact n4, by rw [m 14 0 5 0 (by first | decide | omega) (by first | decide | omega)]; exact n5, by rw [m 14 0 5 1 (by first | decide | omega) (by first | decide | omega)]; exact n6⟩, hW, ?_, ?_, ?_, fin.1.1, fin.1.2⟩, ?_, ?_, fin.2.1, fin.2.2, hU', hLL.1, hLL.2⟩
  · have k0 := kk 0
    have k2 := kk 2
    have k3 := kk 3
    have k5' := kk 5
    have k7 := kk 7
    have k8 := kk 8
    have k9 := kk 9
    have k10 := kk 10
    have k11 := kk 11
    have k12 := kk 12
    have e8 := kc 8 (by first | decide | omega)
    omega
  · unfold IB at *
    rw [f12 0, f12 2, f12 4, f12 5, f12 6, f3]; exact hB
  · unfold MW at *
    rw [m14 13 (by first | decide | omega), m14 14 (by first | decide | omega), m14 15 (by first | decide | omega)]; exact d4
  · unfold XS at *
    simp only [m14 58 (by first | decide | omega), ex 36 (by decide), ex 37 (by decide), ex 38 (by decide), ex 39 (by decide), ex 40 (by decide), ex 41 (by decide)]; exact d5
  · unfold XC at *
    simp only [ex 42 (by decide), ex 45 (by decide), ex 46 (by decide)]; exact d6
  · unfold X77 at *
    simp only [ex 77 (by decide), ex 78 (by decide), ex 79 (by decide), ex 80 (by decide)]; exact d7
  · unfold IQp at *
    rw [q6]; exact hQ
  · unfold IG at *
    rw [q6, q4, q1, slE_e (fun _ v => b6 p 0 v hQ.1.1), slE_e (fun _ v => b6 p0 0 v hQ.1.2.1), slE_e (fun _ v => b6 p1 0 v hQ.1.2.2)]; exact hG
  · intro y y0 y1
    have hy : y < K.2 6 := by omega
    have o := hF y y0 hy
    have k2 := kk 2
    have k9 := kk 9
    rw [f6 y 9 hy (by first | decide | omega), h5']
    rcases hc0 with ⟨rfl, rfl⟩ | ⟨rfl, rfl⟩
    · rw [f6 y 12 hy (by first | decide | omega)]
      refine ⟨?_, o.2.1, (by first | decide | omega)⟩
      by_cases z : y = q
      · rw [z, e9]; exact sb.2
      · rw [f6 y 8 hy (by first | decide | omega)]; omega
    · rw [f6 y 8 hy (by first | decide | omega)]
      refine ⟨(by first | decide | omega), o.2.1, ?_⟩
      by_cases z : y = q
      · rw [z, e9]; exact sb.2
      · rw [f6 y 12 hy (by first | decide | omega)]; omega
  · unfold T61 at *
    rw [m14 61 (by first | decide | omega)]; exact t61
  · refine ⟨fun y y0 y1 z => ?_, fun k hk y y' y0 y1 z0 z1 n => ?_⟩
    · have hy : y < K.2 6 := by omega
      rw [f6 y 9 hy (by first | decide | omega)] at z ⊢
      have r := hS.1 y y0 hy z
      have l := (hF y y0 hy).2.1
      unfold rwS at *
      rw [f 5 _ 8 l (by first | decide | omega) (by first | decide | omega), f 5 _ 9 l (by first | decide | omega) (by first | decide | omega)]; exact r
    · have hy : y < K.2 6 := by omega
      have hy' : y' < K.2 6 := by omega
      by_cases ek : k = kk'
      · subst ek
        have o1 := hkk y y0 hy
        have o2 := hkk y' z0 hy'
        by_cases e : y = q
        · rw [e, e9, f6 y' k hy' (by first | decide | omega)]
          intro _ c
          rcases sc with ⟨a, _⟩ | ⟨_, a, _⟩
          · exact hS.2 k hk q y' hq0.1 hq0.2 z0 hy' (by first | decide | omega) (by first | decide | omega) (by first | decide | omega)
          · omega
        · by_cases e' : y' = q
          · rw [e', e9, f6 y k hy (by first | decide | omega)]
            intro z c
            rcases sc with ⟨a, _⟩ | ⟨_, a, _⟩
            · exact hS.2 k hk y q y0 hy hq0.1 hq0.2 e z (by first | decide | omega)
            · omega
          · rw [f6 y k hy (by first | decide | omega), f6 y' k hy' (by first | decide | omega)]
            exact hS.2 k hk y y' y0 hy z0 hy' n
      · rw [f6 y k hy (by first | decide | omega), f6 y' k hy' (by first | decide | omega)]
        exact hS.2 k hk y y' y0 hy z0 hy' n
end
end
section
section
/-! ===== lines: the reference's side ===== -/
section
variable {K : Nat} {w : Int}
theorem L_ahd {F : zF} {B : zB} {a : Int} (w0 : 0 ≤ w ∧ w < 3) (h2 : -7 ≤ F 13 w 2 ∧ F 13 w 2 ≤ 7) (ha : r32 a) : ∃ r, f_M_ahead K w a F B = some (r, F, B) ∧ 0 ≤ r ∧ r ≤ 100 := by
  have key : ∀ s : Int, 0 ≤ s ∧ s ≤ 7 → ∃ r, f_M_ahead_22 K a 24 5 s F B = some (r, F, B) ∧ 0 ≤ r ∧ r ≤ 100 := fun s hs => by
    unfold f_M_ahead_22 f_M_ahead_34
    rw [if_pos ha]
    by_cases c : a = 0
    · rw [if_pos c]; exact ⟨_, rfl, (by first | decide | omega), (by first | decide | omega)⟩
    · rw [if_neg c]; exact ⟨_, rfl, (by first | decide | omega), (by first | decide | omega)⟩
  unfold f_M_ahead
  rw [if_pos w0, if_pos (by unfold r32; omega)]
  by_cases c : 0 ≤ F 13 w 2
  · rw [if_pos c]; exact key _ (by first | decide | omega)
  · rw [if_neg c]; exact key _ (by first | decide | omega)
theorem L_lw9 {F : zF} {B : zB} {a b : Int} (w0 : 0 ≤ w ∧ w < 3) (h46 : ∀ x, 0 ≤ B 13 w 46 x ∧ B 13 w 46 x ≤ 400000) (ha : 0 ≤ a) (hb : 0 ≤ b) (hab : a + b ≤ 100) : ∀ (d N : Nat) (j v : Int), a + b ≤ j + d → 0 ≤ j → j ≤ 100 → d < N → (0 ≤ v ∧ v ≤ 100 + 400000 * j) → ∃ r, f_M_lineWide_9 K N j v w a b F B = some (r, F, B) ∧ 0 ≤ r ∧ r ≤ 50000000 := by
  intro d
  induction d with
  | zero =>
    intro N j v hj j0 j1 hN hv
    obtain ⟨n, rfl⟩ : ∃ n, N = n + 1 := ⟨N - 1, (by first | decide | omega)⟩
    rw [f_M_lineWide_9, if_pos (by unfold r32; omega), if_pos (by unfold r32; omega), if_pos (by first | decide | omega)]
    exact ⟨v, rfl, (by first | decide | omega), (by first | decide | omega)⟩
  | succ d ih =>
    intro N j v hj j0 j1 hN hv
    obtain ⟨n, rfl⟩ : ∃ n, N = n + 1 := ⟨N - 1, (by first | decide | omega)⟩
    rw [f_M_lineWide_9, if_pos (by unfold r32; omega), if_pos (by unfold r32; omega)]
    by_cases c : a + b ≤ j
    · rw [if_pos c]; exact ⟨v, rfl, (by first | decide | omega), (by first | decide | omega)⟩
    · have k := h46 j
      rw [if_neg c, if_pos w0, if_pos (by first | decide | omega)]
      exact ih n (j + 1) _ (by first | decide | omega) (by first | decide | omega) (by first | decide | omega) (by first | decide | omega) (by first | decide | omega)
theorem L_lw {F : zF} {B : zB} {a b : Int} (hK : 200 ≤ K) (w0 : 0 ≤ w ∧ w < 3) (h2 : -7 ≤ F 13 w 2 ∧ F 13 w 2 ≤ 7) (h46 : ∀ x, 0 ≤ B 13 w 46 x ∧ B 13 w 46 x ≤ 400000) (ha : 0 ≤ a) (hb : 0 ≤ b) (hab : a + b ≤ 100) : ∃ r, f_M_lineWide K w a b F B = some (r, F, B) ∧ 0 ≤ r ∧ r ≤ 50000000 := by
  obtain ⟨r, e, r0, r1⟩ := L_ahd (K := K) (B := B) w0 h2 (a := a) (by unfold r32; omega)
  unfold f_M_lineWide
  rw [e, zb_s]
  exact L_lw9 w0 h46 ha hb hab 100 K a r (by first | decide | omega) ha (by first | decide | omega) (by first | decide | omega) (by first | decide | omega)
theorem L_prc {F : zF} {B : zB} {a b wd : Int} (hK : 200 ≤ K) (w0 : 0 ≤ w ∧ w < 3) (h2 : -7 ≤ F 13 w 2 ∧ F 13 w 2 ≤ 7) (h7 : 0 ≤ F 13 w 7 ∧ F 13 w 7 ≤ 100) (h46 : ∀ x, 0 ≤ B 13 w 46 x ∧ B 13 w 46 x ≤ 400000) (ha : 0 ≤ a) (hb : 0 ≤ b) (hab : a + b ≤ 100) (hw : 0 ≤ wd ∧ wd ≤ 2000) : ∃ r, f_M_price K w a b wd F B = some (r, F, B) ∧ -1 ≤ r ∧ r ≤ 10000000000000000 ∧ (b ≤ 1 → 0 ≤ r) := by
  obtain ⟨r, e, r0, r1⟩ := L_lw hK w0 h2 h46 ha hb hab
  unfold f_M_price f_M_price_43 f_M_price_69
  rw [e, zb_s, if_pos (by unfold r32; omega), if_pos (by unfold r32; omega), if_pos (by unfold r64; omega), if_pos (by unfold r64; omega)]
  by_cases c : zcmp r wd ≤ 0
  · have le : r ≤ wd := by unfold zcmp at c; split at c <;> omega
    have m1 : 0 ≤ (wd - r) * (wd - r) := Int.mul_nonneg (by first | decide | omega) (by first | decide | omega)
    have m2 : (wd - r) * (wd - r) ≤ 2000 * 2000 := Int.mul_le_mul (by first | decide | omega) (by first | decide | omega) (by first | decide | omega) (by first | decide | omega)
    rw [if_pos c, if_pos w0, if_pos (by unfold r32; omega), if_pos (by unfold r32; omega)]
    by_cases c' : a + b = F 13 w 7
    · rw [if_pos c']; exact ⟨0, rfl, (by first | decide | omega), (by first | decide | omega), fun _ => (by first | decide | omega)⟩
    · rw [if_neg c']; exact ⟨_, rfl, (by first | decide | omega), (by first | decide | omega), fun _ => (by first | decide | omega)⟩
  · have le : wd < r := by unfold zcmp at c; split at c <;> omega
    have m1 : 0 ≤ 4 * (r - wd) * (r - wd) := Int.mul_nonneg (by first | decide | omega) (by first | decide | omega)
    have m2 : 4 * (r - wd) * (r - wd) ≤ 200000000 * 50000000 := Int.mul_le_mul (by first | decide | omega) (by first | decide | omega) (by first | decide | omega) (by first | decide | omega)
    rw [if_neg c, if_pos (by unfold r32; omega)]
    by_cases c' : b ≤ 1
    · rw [if_pos c']; exact ⟨_, rfl, (by first | decide | omega), (by first | decide | omega), fun _ => m1⟩
    · rw [if_neg c']; exact ⟨_, rfl, (by first | decide | omega), (by first | decide | omega), fun z => absurd z c'⟩
/-- what choosing may change -/
def lcB (B B' : zB) : Prop := ∀ c y k x, ¬ (c = 14 ∧ y = 0 ∧ (k = 59 ∨ k = 60)) → B' c y k x = B c y k x
theorem lcB_t {B B1 B2 : zB} (h : lcB B B1) (h' : lcB B1 B2) : lcB B B2 := fun c y k x n => by rw [h' c y k x n, h c y k x n]
theorem lcB_w {B : zB} {k : Nat} {i x : Int} (hk : k = 59 ∨ k = 60) : lcB B (zup4 B 14 0 k i x) := fun c y j z n => by rw [zup4_v, if_neg (by first | decide | omega)]
theorem L_l60 {F : zF} {nb wd a : Int} {rec : Int → Int → Int → zF → zB → zO} (hK : 200 ≤ K) (w0 : 0 ≤ w ∧ w < 3) (h2 : -7 ≤ F 13 w 2 ∧ F 13 w 2 ≤ 7) (h7 : F 13 w 7 = nb) (n0 : 0 ≤ nb ∧ nb ≤ 100) (ha : 0 ≤ a ∧ a < nb) (hw : 0 ≤ wd ∧ wd ≤ 2000) : ∀ (d N : Nat) (j : Int) (B : zB), nb + 1 ≤ a + j + d → 1 ≤ j → j ≤ 101 → d < N → (∀ x, 0 ≤ B 13 w 46 x ∧ B 13 w 46 x ≤ 400000) → (∀ i, a < i → i ≤ nb → 0 ≤ B 14 0 59 i ∧ B 14 0 59 i ≤ 10000000000000000 * (nb - i)) → ((j = 1 ∧ B 14 0 60 a = 0) ∨ (1 ≤ B 14 0 60 a ∧ B 14 0 60 a ≤ nb - a ∧ 0 ≤ B 14 0 59 a ∧ B 14 0 59 a ≤ 10000000000000000 * (nb - a))) → ∃ B', f_M_lines_60 rec K N j a w wd F B = rec (a - 1) w wd F B' ∧ lcB B B' ∧ (∀ k x, ¬ x = a → B' 14 0 k x = B 14 0 k x) ∧ (1 ≤ B' 14 0 60 a ∧ B' 14 0 60 a ≤ nb - a) ∧ (0 ≤ B' 14 0 59 a ∧ B' 14 0 59 a ≤ 10000000000000000 * (nb - a)) := by
  intro d
  induction d with
  | zero =>
    intro N j B hj j0 j1 hN h46 h59 hs
    obtain ⟨n, rfl⟩ : ∃ n, N = n + 1 := ⟨N - 1, (by first | decide | omega)⟩
    rw [f_M_lines_60, if_pos w0, if_pos (by unfold r32; omega), h7, if_pos (by unfold r32; omega), if_pos (by first | decide | omega)]
    exact ⟨B, rfl, fun _ _ _ _ _ => rfl, fun _ _ _ => rfl, (by first | decide | omega), (by first | decide | omega)⟩
  | succ d ih =>
    intro N j B hj j0 j1 hN h46 h59 hs
    obtain ⟨n, rfl⟩ : ∃ n, N = n + 1 := ⟨N - 1, (by first | decide | omega)⟩
    rw [f_M_lines_60, if_pos w0, if_pos (by unfold r32; omega), h7, if_pos (by unfold r32; omega)]
    by_cases c : nb < a + j
    · rw [if_pos c]
      exact ⟨B, rfl, fun _ _ _ _ _ => rfl, fun _ _ _ => rfl, (by first | decide | omega), (by first | decide | omega)⟩
    obtain ⟨r, e, r0, r1, r2⟩ := L_prc hK w0 h2 (by first | decide | omega) h46 ha.1 (b := j) (by first | decide | omega) (by first | decide | omega) hw
    have k59 := h59 (a + j) (by first | decide | omega) (by first | decide | omega)
    rw [if_neg c, e, zb_s, if_pos (by unfold r64; omega)]
    have o134 : 0 ≤ r → ∃ B', f_M_lines_134 rec (f_M_lines_60 rec K n) K (r + B 14 0 59 (a + j)) j a w wd F B = rec (a - 1) w wd F B' ∧ lcB B B' ∧ (∀ k x, ¬ x = a → B' 14 0 k x = B 14 0 k x) ∧ (1 ≤ B' 14 0 60 a ∧ B' 14 0 60 a ≤ nb - a) ∧ (0 ≤ B' 14 0 59 a ∧ B' 14 0 59 a ≤ 10000000000000000 * (nb - a)) := fun rp => by
      unfold f_M_lines_134 f_M_lines_152
      rw [if_pos (by first | decide | omega)]
      obtain ⟨B', g1, g2, g3, g4, g5⟩ := ih n (j + 1) (zup4 (zup4 B 14 0 59 a (r + B 14 0 59 (a + j))) 14 0 60 a j) (by first | decide | omega) (by first | decide | omega) (by first | decide | omega) (by first | decide | omega) (fun x => by rw [zup4_v, if_neg (by first | decide | omega), zup4_v, if_neg (by first | decide | omega)]; exact h46 x) (fun i i0 i1 => by rw [zup4_v, if_neg (by first | decide | omega), zup4_v, if_neg (by first | decide | omega)]; exact h59 i i0 i1) (Or.inr (by
        rw [zup4_v, if_pos ⟨rfl, rfl, rfl, rfl⟩, zup4_v, if_neg (by first | decide | omega), zup4_v, if_pos ⟨rfl, rfl, rfl, rfl⟩]
        omega))
      exact ⟨B', g1, lcB_t (lcB_t (lcB_w (by first | decide | omega)) (lcB_w (by first | decide | omega))) g2, fun k x hx => by rw [g3 k x hx, zup4_v, if_neg (by first | decide | omega), zup4_v, if_neg (by first | decide | omega)], g4, g5⟩
    by_cases c1 : 0 ≤ zcmp r 0
    · have rp : 0 ≤ r := by unfold zcmp at c1; split at c1 <;> omega
      have r60 : r32 (B 14 0 60 a) := by
        clear o134 ih
        rcases hs with z | z
        · unfold r32; omega
        · unfold r32; omega
      rw [if_pos c1, if_pos (by clear o134; omega), if_pos (by clear o134; omega), if_pos r60]
      by_cases c2 : B 14 0 60 a ≤ 0
      · rw [if_pos c2]; exact o134 rp
      · have q : 1 ≤ B 14 0 60 a ∧ B 14 0 60 a ≤ nb - a ∧ 0 ≤ B 14 0 59 a ∧ B 14 0 59 a ≤ 10000000000000000 * (nb - a) := by
          rcases hs with z | z
          · omega
          · exact z
        rw [if_neg c2, if_pos (by unfold r64; omega), if_pos (by unfold r64; omega)]
        by_cases c3 : zcmp (r + B 14 0 59 (a + j)) (B 14 0 59 a) ≤ 0
        · rw [if_pos c3]; exact o134 rp
        · rw [if_neg c3]
          exact ih n (j + 1) B (by first | decide | omega) (by first | decide | omega) (by first | decide | omega) (by first | decide | omega) h46 h59 (Or.inr q)
    · have rn : r < 0 := by
        rcases Int.lt_or_le r 0 with z | z
        · exact z
        · refine absurd ?_ c1
          unfold zcmp
          split
          · omega
          · split <;> omega
      rw [if_neg c1]
      refine ih n (j + 1) B (by first | decide | omega) (by first | decide | omega) (by first | decide | omega) (by first | decide | omega) h46 h59 (Or.inr ?_)
      rcases hs with ⟨z, _⟩ | z
      · have := r2 (by first | decide | omega); omega
      · exact z
theorem L_l44 {F : zF} {nb wd : Int} (hK : 200 ≤ K) (w0 : 0 ≤ w ∧ w < 3) (h2 : -7 ≤ F 13 w 2 ∧ F 13 w 2 ≤ 7) (h7 : F 13 w 7 = nb) (n0 : 0 ≤ nb ∧ nb ≤ 100) (hw : 0 ≤ wd ∧ wd ≤ 2000) : ∀ (d N : Nat) (a : Int) (B : zB), a + 1 = d → a < nb → d < N → (∀ x, 0 ≤ B 13 w 46 x ∧ B 13 w 46 x ≤ 400000) → (∀ i, a < i → i ≤ nb → 0 ≤ B 14 0 59 i ∧ B 14 0 59 i ≤ 10000000000000000 * (nb - i)) → (∀ i, a < i → i < nb → 1 ≤ B 14 0 60 i ∧ B 14 0 60 i ≤ nb - i) → ∃ B', f_M_lines_44 K N a w wd F B = f_M_lines_177 K K 0 w wd (zup3 (zup3 F 13 w 48 0) 13 w 47 wd) B' ∧ lcB B B' ∧ (∀ i, 0 ≤ i → i < nb → 1 ≤ B' 14 0 60 i ∧ B' 14 0 60 i ≤ nb - i) := by
  intro d
  induction d with
  | zero =>
    intro N a B ha a1 hN h46 h59 h60
    obtain ⟨n, rfl⟩ : ∃ n, N = n + 1 := ⟨N - 1, (by first | decide | omega)⟩
    rw [f_M_lines_44, if_pos (by unfold r32; omega), if_pos (by first | decide | omega), if_pos w0]
    exact ⟨B, rfl, fun _ _ _ _ _ => rfl, fun i i0 i1 => h60 i (by first | decide | omega) i1⟩
  | succ d ih =>
    intro N a B ha a1 hN h46 h59 h60
    obtain ⟨n, rfl⟩ : ∃ n, N = n + 1 := ⟨N - 1, (by first | decide | omega)⟩
    rw [f_M_lines_44, if_pos (by unfold r32; omega), if_neg (by first | decide | omega), if_pos (by first | decide | omega)]
    obtain ⟨B1, g1, g2, g3, g4, g5⟩ := L_l60 (F := F) (nb := nb) (wd := wd) (a := a) (rec := f_M_lines_44 K n) hK w0 h2 h7 n0 (by first | decide | omega) hw 101 K 1 (zup4 B 14 0 60 a 0) (by first | decide | omega) (by first | decide | omega) (by first | decide | omega) (by first | decide | omega) (fun x => by rw [zup4_v, if_neg (by first | decide | omega)]; exact h46 x) (fun i i0 i1 => by rw [zup4_v, if_neg (by first | decide | omega)]; exact h59 i i0 i1) (Or.inl ⟨rfl, by rw [zup4_v, if_pos ⟨rfl, rfl, rfl, rfl⟩]⟩)
    have e1 : ∀ k i, ¬ i = a → B1 14 0 k i = B 14 0 k i := fun k i hi => by rw [g3 k i hi, zup4_v, if_neg (by first | decide | omega)]
    rw [g1]
    obtain ⟨B2, k1, k2, k3⟩ := ih n (a - 1) B1 (by first | decide | omega) (by first | decide | omega) (by first | decide | omega) (fun x => by rw [g2 13 w 46 x (by first | decide | omega), zup4_v, if_neg (by first | decide | omega)]; exact h46 x) (fun i i0 i1 => by
      by_cases e : i = a
      · rw [e]; exact g5
      · rw [e1 59 i e]; exact h59 i (by first | decide | omega) i1) (fun i i0 i1 => by
      by_cases e : i = a
      · rw [e]; exact g4
      · rw [e1 60 i e]; exact h60 i (by first | decide | omega) i1)
    exact ⟨B2, k1, lcB_t (lcB_w (by first | decide | omega)) (lcB_t g2 k2), k3⟩
/-- lines told so far -/
def LNp (w nb i a : Int) (B : zB) : Prop := (0 ≤ i ∧ i ≤ a ∧ a ≤ nb) ∧ (∀ j, 0 ≤ j → j < i → 0 ≤ B 13 w 49 j ∧ 1 ≤ B 13 w 50 j ∧ B 13 w 49 j + B 13 w 50 j ≤ nb ∧ r32 (B 13 w 51 j)) ∧ (0 < i → B 13 w 49 0 = 0) ∧ (∀ j, 0 ≤ j → j + 1 < i → B 13 w 49 (j + 1) = B 13 w 49 j + B 13 w 50 j) ∧ (0 < i → B 13 w 49 (i - 1) + B 13 w 50 (i - 1) = a) ∧ (i = 0 → a = 0)
theorem L_l177 {nb wd : Int} {F0 : zF} {B0 : zB} (hK : 200 ≤ K) (w0 : 0 ≤ w ∧ w < 3) (h2 : -7 ≤ F0 13 w 2 ∧ F0 13 w 2 ≤ 7) (h7 : F0 13 w 7 = nb) (n0 : 0 ≤ nb ∧ nb ≤ 100) (hw : 0 ≤ wd ∧ wd ≤ 2000) (h46 : ∀ x, 0 ≤ B0 13 w 46 x ∧ B0 13 w 46 x ≤ 400000) (h60 : ∀ i, 0 ≤ i → i < nb → 1 ≤ B0 14 0 60 i ∧ B0 14 0 60 i ≤ nb - i) : ∀ (d N : Nat) (a i : Int) (F : zF) (B : zB), nb ≤ a + d → d < N → 0 ≤ a → F 13 w 48 = i → (∀ c y k, ¬ (c = 13 ∧ y = w ∧ k = 48) → F c y k = F0 c y k) → (∀ c y k x, ¬ (c = 13 ∧ y = w ∧ 49 ≤ k ∧ k ≤ 52) → B c y k x = B0 c y k x) → LNp w nb i a B → ∃ r F' B', f_M_lines_177 K N a w wd F B = some (r, F', B') ∧ (∀ c y k, ¬ (c = 13 ∧ y = w ∧ k = 48) → F' c y k = F0 c y k) ∧ (∀ c y k x, ¬ (c = 13 ∧ y = w ∧ 49 ≤ k ∧ k ≤ 52) → B' c y k x = B0 c y k x) ∧ ∃ i', F' 13 w 48 = i' ∧ LNp w nb i' nb B' := by
  intro d
  induction d with
  | zero =>
    intro N a i F B hd hN a0 h48 f b hp
    obtain ⟨n, rfl⟩ : ∃ n, N = n + 1 := ⟨N - 1, (by first | decide | omega)⟩
    have ea : a = nb := by have := hp.1; omega
    rw [f_M_lines_177, if_pos w0, if_pos (by unfold r32; omega), f 13 w 7 (by first | decide | omega), h7, if_pos (by unfold r32; omega), if_pos (by first | decide | omega)]
    exact ⟨_, F, B, rfl, f, b, i, h48, by rw [ea] at hp; exact hp⟩
  | succ d ih =>
    intro N a i F B hd hN a0 h48 f b hp
    obtain ⟨n, rfl⟩ : ∃ n, N = n + 1 := ⟨N - 1, (by first | decide | omega)⟩
    have hp1 := hp.1
    rw [f_M_lines_177, if_pos w0, if_pos (by unfold r32; omega), f 13 w 7 (by first | decide | omega), h7, if_pos (by unfold r32; omega)]
    by_cases c : nb ≤ a
    · have ea : a = nb := by have := hp.1; omega
      rw [if_pos c]
      exact ⟨_, F, B, rfl, f, b, i, h48, by rw [ea] at hp; exact hp⟩
    obtain ⟨⟨p1, p2, p3⟩, p4, p5, p6, p7, p8⟩ := hp
    have k60 := h60 a a0 (by first | decide | omega)
    have b60 : B 14 0 60 a = B0 14 0 60 a := b 14 0 60 a (by first | decide | omega)
    have u1 : (zup4 B 13 w 49 i a) 14 0 60 a = B0 14 0 60 a := by rw [zup4_v, if_neg (by first | decide | omega), b60]
    generalize hz : B0 14 0 60 a = z at *
    have u2 : (zup4 (zup4 B 13 w 49 i a) 13 w 50 i z) 14 0 60 a = z := by rw [zup4_v, if_neg (by first | decide | omega)]; exact u1
    rw [if_neg c, h48, if_pos (by first | decide | omega), if_pos (by first | decide | omega), u1, u2]
    have hB1 : ∀ c y k x, ¬ (c = 13 ∧ y = w ∧ 49 ≤ k ∧ k ≤ 52) → (zup4 (zup4 B 13 w 49 i a) 13 w 50 i z) c y k x = B0 c y k x := fun c y k x q => by rw [zup4_v, if_neg (by first | decide | omega), zup4_v, if_neg (by first | decide | omega)]; exact b c y k x q
    have e49 : ∀ j, (zup4 (zup4 B 13 w 49 i a) 13 w 50 i z) 13 w 49 j = if j = i then a else B 13 w 49 j := fun j => by
      rw [zup4_v, if_neg (by first | decide | omega), zup4_v]
      by_cases q : j = i
      · rw [if_pos ⟨rfl, rfl, rfl, q⟩, if_pos q]
      · rw [if_neg (fun k => q k.2.2.2), if_neg q]
    have e50 : ∀ j, (zup4 (zup4 B 13 w 49 i a) 13 w 50 i z) 13 w 50 j = if j = i then z else B 13 w 50 j := fun j => by
      rw [zup4_v]
      by_cases q : j = i
      · rw [if_pos ⟨rfl, rfl, rfl, q⟩, if_pos q]
      · rw [if_neg (fun k => q k.2.2.2), if_neg q, zup4_v, if_neg (by first | decide | omega)]
    have e51 : ∀ j, (zup4 (zup4 B 13 w 49 i a) 13 w 50 i z) 13 w 51 j = B 13 w 51 j := fun j => by rw [zup4_v, if_neg (by first | decide | omega), zup4_v, if_neg (by first | decide | omega)]
    generalize zup4 (zup4 B 13 w 49 i a) 13 w 50 i z = B1 at hB1 e49 e50 e51 u2 ⊢
    have f2 : -7 ≤ F 13 w 2 ∧ F 13 w 2 ≤ 7 := by rw [f 13 w 2 (by first | decide | omega)]; exact h2
    have f7 : 0 ≤ F 13 w 7 ∧ F 13 w 7 ≤ 100 := by rw [f 13 w 7 (by first | decide | omega), h7]; exact n0
    obtain ⟨t, e, t0, t1⟩ := L_lw (K := K) (F := F) (B := B1) (a := a) (b := z) hK w0 f2 (fun x => by rw [hB1 13 w 46 x (by first | decide | omega)]; exact h46 x) a0 (by first | decide | omega) (by first | decide | omega)
    rw [e, zb_s]
    have v2 : (zup4 B1 13 w 51 i t) 14 0 60 a = z := by rw [zup4_v, if_neg (by first | decide | omega)]; exact u2
    rw [v2]
    obtain ⟨r, e', _⟩ := L_prc (K := K) (F := F) (B := zup4 B1 13 w 51 i t) (a := a) (b := z) hK w0 f2 f7 (fun x => by rw [zup4_v, if_neg (by first | decide | omega), hB1 13 w 46 x (by first | decide | omega)]; exact h46 x) a0 (by first | decide | omega) (by first | decide | omega) hw
    have v3 : (zup4 (zup4 B1 13 w 51 i t) 13 w 52 i r) 14 0 60 a = z := by rw [zup4_v, if_neg (by first | decide | omega)]; exact v2
    rw [e', zb_s, h48, if_pos (by first | decide | omega), v3]
    have x49 : ∀ j, (zup4 (zup4 B1 13 w 51 i t) 13 w 52 i r) 13 w 49 j = B1 13 w 49 j := fun j => by rw [zup4_v, if_neg (by first | decide | omega), zup4_v, if_neg (by first | decide | omega)]
    have x50 : ∀ j, (zup4 (zup4 B1 13 w 51 i t) 13 w 52 i r) 13 w 50 j = B1 13 w 50 j := fun j => by rw [zup4_v, if_neg (by first | decide | omega), zup4_v, if_neg (by first | decide | omega)]
    have x51 : ∀ j, (zup4 (zup4 B1 13 w 51 i t) 13 w 52 i r) 13 w 51 j = if j = i then t else B1 13 w 51 j := fun j => by
      rw [zup4_v, if_neg (by first | decide | omega), zup4_v]
      by_cases q : j = i
      · rw [if_pos ⟨rfl, rfl, rfl, q⟩, if_pos q]
      · rw [if_neg (fun k => q k.2.2.2), if_neg q]
    have hB3 : ∀ c y k x, ¬ (c = 13 ∧ y = w ∧ 49 ≤ k ∧ k ≤ 52) → (zup4 (zup4 B1 13 w 51 i t) 13 w 52 i r) c y k x = B0 c y k x := fun c y k x q => by rw [zup4_v, if_neg (by first | decide | omega), zup4_v, if_neg (by first | decide | omega)]; exact hB1 c y k x q
    generalize zup4 (zup4 B1 13 w 51 i t) 13 w 52 i r = B3 at x49 x50 x51 hB3 ⊢
    refine ih n (a + z) (i + 1) _ B3 (by first | decide | omega) (by first | decide | omega) (by first | decide | omega) (by rw [zup3_v, if_pos ⟨rfl, rfl, rfl⟩]) (fun c y k q => by rw [zup3_v, if_neg (by first | decide | omega)]; exact f c y k q) hB3 ⟨(by first | decide | omega), fun j j0 j1 => ?_, fun _ => ?_, fun j j0 j1 => ?_, fun _ => ?_, fun q => (by first | decide | omega)⟩
    · rw [x49, x50, x51, e49, e50, e51]
      by_cases q : j = i
      · rw [if_pos q, if_pos q, if_pos q]
        exact ⟨a0, k60.1, (by first | decide | omega), by unfold r32; omega⟩
      · rw [if_neg q, if_neg q, if_neg q]
        exact p4 j j0 (by first | decide | omega)
    · rw [x49, e49]
      by_cases q : (0 : Int) = i
      · rw [if_pos q]; exact p8 q.symm
      · rw [if_neg q]; exact p5 (by first | decide | omega)
    · rw [x49, x49, x50, e49, e49, e50]
      by_cases q : j + 1 = i
      · rw [if_pos q, if_neg (by first | decide | omega), if_neg (by first | decide | omega)]
        have := p7 (by first | decide | omega)
        rw [show i - 1 = j by omega] at this
        omega
      · rw [if_neg q, if_neg (by first | decide | omega), if_neg (by first | decide | omega)]
        exact p6 j j0 (by first | decide | omega)
    · rw [x49, x50, e49, e50, if_pos (by first | decide | omega), if_pos (by first | decide | omega)]
end
end
end
section
section
/-! ===== the columns of a piece, class: exactly ===== -/
variable {K : zK} {V p l w : Int}
/-- the notes of both sides, and their order -/
def ENl (V p w : Int) (F : zF) (B Bm : zB) : Prop := ∀ u, 0 ≤ u → u < V → Bm 13 w 13 u = F 4 (B 6 p 0 u) 10 ∧ ∀ i, 0 ≤ i → i < F 4 (B 6 p 0 u) 10 → Bm 13 w 31 (800 * u + i) = B 4 (B 6 p 0 u) 361 i ∧ Bm 13 w 32 (800 * u + i) = nu (B 4 (B 6 p 0 u) 9 i) ∧ Bm 13 w 33 (800 * u + i) = de (B 4 (B 6 p 0 u) 9 i) ∧ Bm 13 w 35 (800 * u + i) = B 4 (B 6 p 0 u) 365 i ∧ (Bm 13 w 37 (800 * u + i) = B 4 (B 6 p 0 u) 367 i ∧ 0 ≤ B 4 (B 6 p 0 u) 367 i) ∧ (0 < i → LX (B 4 (B 6 p 0 u) 361 (i - 1)) (B 4 (B 6 p 0 u) 9 (i - 1)) (B 4 (B 6 p 0 u) 361 i) (B 4 (B 6 p 0 u) 9 i))
theorem EN_f {F F' : zF} {B B' Bm : zB} (h : ENl V p w F B Bm) (f : lyF l F F') (b : lyB l B B') : ENl V p w F' B' Bm := by
  have b6 : ∀ x, B' 6 p 0 x = B 6 p 0 x := fun x => b 6 p 0 x (by first | decide | omega)
  have f4 : ∀ q k, F' 4 q k = F 4 q k := fun q k => f 4 q k (by first | decide | omega)
  have b4 : ∀ q k x, B' 4 q k x = B 4 q k x := fun q k x => b 4 q k x (by first | decide | omega)
  unfold ENl at *
  simp only [b6, f4, b4]
  exact h
theorem EN_d {F : zF} {B Bm : zB} (h : ENl V p w F B Bm) {u : Int} (u0 : 0 ≤ u) (u1 : u < V) : ∀ (d : Nat) (i : Int), 0 ≤ i → i + d + 1 < F 4 (B 6 p 0 u) 10 → LX (B 4 (B 6 p 0 u) 361 i) (B 4 (B 6 p 0 u) 9 i) (B 4 (B 6 p 0 u) 361 (i + d + 1)) (B 4 (B 6 p 0 u) 9 (i + d + 1)) := by
  intro d
  induction d with
  | zero =>
    intro i i0 i1
    have := ((h u u0 u1).2 (i + ((0 : Nat) : Int) + 1) (by first | decide | omega) i1).2.2.2.2.2 (by first | decide | omega)
    rw [show i + ((0 : Nat) : Int) + 1 - 1 = i by omega] at this
    exact this
  | succ d ih =>
    intro i i0 i1
    have h1 := ih i i0 (by first | decide | omega)
    have h2 := ((h u u0 u1).2 (i + ((d + 1 : Nat) : Int) + 1) (by first | decide | omega) i1).2.2.2.2.2 (by first | decide | omega)
    rw [show i + ((d + 1 : Nat) : Int) + 1 - 1 = i + (d : Int) + 1 by omega] at h2
    unfold LX at *
    omega
theorem EN_m {F : zF} {B Bm : zB} (h : ENl V p w F B Bm) {u i j : Int} (u0 : 0 ≤ u) (u1 : u < V) (i0 : 0 ≤ i) (ij : i < j) (j1 : j < F 4 (B 6 p 0 u) 10) : LX (B 4 (B 6 p 0 u) 361 i) (B 4 (B 6 p 0 u) 9 i) (B 4 (B 6 p 0 u) 361 j) (B 4 (B 6 p 0 u) 9 j) := by
  have := EN_d h u0 u1 (j - i - 1).toNat i i0 (by first | decide | omega)
  rw [show i + ((j - i - 1).toNat : Int) + 1 = j by omega] at this
  exact this
/-- a note of bar b at place x, as the reference sees it -/
theorem EN_s {F : zF} {B Bm : zB} (h : ENl V p w F B Bm) (hP : PQl K V p F B) {b x U y : Int} (x0 : 0 ≤ x) : sNt V w b x U Bm y ↔ ∃ u i, 0 ≤ u ∧ u < V ∧ 0 ≤ i ∧ i < F 4 (B 6 p 0 u) 10 ∧ y = 800 * u + i ∧ B 4 (B 6 p 0 u) 361 i = b ∧ B 4 (B 6 p 0 u) 9 i = x ∧ y < U := by
  constructor
  · rintro ⟨u, a0, a1, a2, a3, a4, a5, a6, a7⟩
    obtain ⟨h1, h2⟩ := h u a0 a1
    rw [h1] at a3
    obtain ⟨k1, k2, k3, _⟩ := h2 (y - 800 * u) (by first | decide | omega) (by first | decide | omega)
    rw [show 800 * u + (y - 800 * u) = y by omega] at k1 k2 k3
    obtain ⟨_, p9, _⟩ := (hP.2.2.2.2.2.2 u a0 a1).2.2 (y - 800 * u) (by first | decide | omega) (by first | decide | omega)
    exact ⟨u, y - 800 * u, a0, a1, (by first | decide | omega), (by first | decide | omega), (by first | decide | omega), by rw [← k1]; exact a4, nd_inj p9.1 x0 (by rw [← k2]; exact a5) (by rw [← k3]; exact a6), a7⟩
  · rintro ⟨u, i, a0, a1, a2, a3, rfl, a5, a6, a7⟩
    obtain ⟨h1, h2⟩ := h u a0 a1
    obtain ⟨k1, k2, k3, _⟩ := h2 i a2 a3
    exact ⟨u, a0, a1, (by first | decide | omega), by rw [h1]; omega, by rw [k1]; exact a5, by rw [k2, a6], by rw [k3, a6], a7⟩
/-- where each voice stands: all notes up to place X of bar b are behind -/
def NXs (V p l b X : Int) (F : zF) (B : zB) : Prop := ∀ u, 0 ≤ u → u < V → (0 ≤ B 2 l 12 u ∧ B 2 l 12 u ≤ F 4 (B 6 p 0 u) 10) ∧ (∀ i, 0 ≤ i → i < B 2 l 12 u → B 4 (B 6 p 0 u) 361 i < b ∨ (B 4 (B 6 p 0 u) 361 i = b ∧ B 4 (B 6 p 0 u) 9 i ≤ X)) ∧ (B 2 l 12 u < F 4 (B 6 p 0 u) 10 → b < B 4 (B 6 p 0 u) 361 (B 2 l 12 u) ∨ (B 4 (B 6 p 0 u) 361 (B 2 l 12 u) = b ∧ X < B 4 (B 6 p 0 u) 9 (B 2 l 12 u)))
theorem C_begX {F : zF} {B : zB} {u i b : Int} (h : PQl K V p F B) (u0 : 0 ≤ u) (u1 : u < V) (i0 : 0 ≤ i ∧ i ≤ 800) (rb : r32 b) : ∃ r, f_Layout_beginsIn K (B 6 p 0 u) i b F B = some (r, F, B) ∧ ((r = 0 ∧ ¬ (i < F 4 (B 6 p 0 u) 10 ∧ B 4 (B 6 p 0 u) 361 i = b)) ∨ (r = 1 ∧ i < F 4 (B 6 p 0 u) 10 ∧ B 4 (B 6 p 0 u) 361 i = b)) := by
  obtain ⟨hq, hc, hi⟩ := h.2.2.2.2.2.2 u u0 u1
  unfold f_Layout_beginsIn f_Layout_beginsIn_24 f_Layout_beginsIn_25
  rw [if_pos hq, if_pos (by unfold r32; omega), if_pos (by unfold r32; omega)]
  by_cases c : F 4 (B 6 p 0 u) 10 ≤ i
  · rw [if_pos c, if_pos (Or.inl rfl)]; exact ⟨0, rfl, Or.inl ⟨rfl, (by first | decide | omega)⟩⟩
  · have k := (hi i i0.1 (by first | decide | omega)).1
    rw [if_neg c, if_pos (by first | decide | omega), if_pos (by unfold r32; omega), if_pos rb]
    by_cases c' : B 4 (B 6 p 0 u) 361 i = b
    · rw [if_pos c', if_pos (Or.inr rfl)]; exact ⟨1, rfl, Or.inr ⟨rfl, (by first | decide | omega), c'⟩⟩
    · rw [if_neg c', if_pos (Or.inl rfl)]; exact ⟨0, rfl, Or.inl ⟨rfl, fun z => c' z.2⟩⟩
/-- the nearest place of bar b among the voices before u -/
def NPq (p l b u v : Int) (F : zF) (B : zB) : Prop := (v = -1 ∧ ∀ t, 0 ≤ t → t < u → ¬ (B 2 l 12 t < F 4 (B 6 p 0 t) 10 ∧ B 4 (B 6 p 0 t) 361 (B 2 l 12 t) = b)) ∨ ((0 ≤ v ∧ v ≤ 1000000000000) ∧ (∃ t, 0 ≤ t ∧ t < u ∧ B 2 l 12 t < F 4 (B 6 p 0 t) 10 ∧ B 4 (B 6 p 0 t) 361 (B 2 l 12 t) = b ∧ B 4 (B 6 p 0 t) 9 (B 2 l 12 t) = v) ∧ ∀ t, 0 ≤ t → t < u → B 2 l 12 t < F 4 (B 6 p 0 t) 10 → B 4 (B 6 p 0 t) 361 (B 2 l 12 t) = b → v ≤ B 4 (B 6 p 0 t) 9 (B 2 l 12 t))
theorem C_npX {F : zF} {B : zB} {b : Int} (h : PQl K V p F B) (hl : 0 ≤ l ∧ l < K.2 2) (hB : ∀ u, 0 ≤ u → u < V → 0 ≤ B 2 l 12 u ∧ B 2 l 12 u ≤ F 4 (B 6 p 0 u) 10) (rb : r32 b) : ∀ (d N : Nat) (u v : Int), u + d = V → 0 ≤ u → d < N → NPq p l b u v F B → ∃ r, f_Layout_nextPlace_7 K N u v l p b F B = some (r, F, B) ∧ NPq p l b V r F B := by
  have hV := h.2.1
  intro d
  induction d with
  | zero =>
    intro N u v hu u0 hN hv
    obtain ⟨n, rfl⟩ : ∃ n, N = n + 1 := ⟨N - 1, (by first | decide | omega)⟩
    have e : u = V := by omega
    rw [e] at hv
    rw [f_Layout_nextPlace_7, if_pos h.1, if_pos (by unfold r32; omega), if_pos (by unfold r32; omega), if_pos (by first | decide | omega)]
    exact ⟨v, rfl, hv⟩
  | succ d ih =>
    intro N u v hu u0 hN hv
    obtain ⟨n, rfl⟩ : ∃ n, N = n + 1 := ⟨N - 1, (by first | decide | omega)⟩
    obtain ⟨hq, hc, hi⟩ := h.2.2.2.2.2.2 u u0 (by first | decide | omega)
    have b12 := hB u u0 (by first | decide | omega)
    obtain ⟨r, e, r01⟩ := C_begX h u0 (by first | decide | omega) (i := B 2 l 12 u) ⟨b12.1, (by first | decide | omega)⟩ rb
    have nxt : ∀ v', NPq p l b (u + 1) v' F B → ∃ r, f_Layout_nextPlace_79 (f_Layout_nextPlace_7 K n) K u v' l p b F B = some (r, F, B) ∧ NPq p l b V r F B := fun v' hv' => ih n (u + 1) v' (by first | decide | omega) (by first | decide | omega) (by first | decide | omega) hv'
    have st : ∀ t, t < u + 1 → ¬ t < u → t = u := fun t a c => by omega
    rw [f_Layout_nextPlace_7, if_pos h.1, if_pos (by unfold r32; omega), if_pos (by unfold r32; omega), if_neg (by first | decide | omega), if_pos (by first | decide | omega), if_pos hl, if_pos hq, e, zb_s, if_pos (by unfold r32; omega)]
    rcases r01 with ⟨rz, nb⟩ | ⟨r1, nc, nb⟩
    · rw [if_pos rz]
      refine nxt v ?_
      rcases hv with ⟨v1, hv⟩ | ⟨v1, ⟨t, t0, t1, t2⟩, hv⟩
      · refine Or.inl ⟨v1, fun t t0 t1 => ?_⟩
        by_cases c : t < u
        · exact hv t t0 c
        · rw [st t t1 c]; exact nb
      · refine Or.inr ⟨v1, ⟨t, t0, (by first | decide | omega), t2⟩, fun t t0 t1 t2 t3 => ?_⟩
        by_cases c : t < u
        · exact hv t t0 c t2 t3
        · rw [st t t1 c] at t2 t3
          exact absurd ⟨t2, t3⟩ nb
    have k9 := (hi (B 2 l 12 u) b12.1 nc).2.1
    have o65 : (∀ t, 0 ≤ t → t < u → B 2 l 12 t < F 4 (B 6 p 0 t) 10 → B 4 (B 6 p 0 t) 361 (B 2 l 12 t) = b → B 4 (B 6 p 0 u) 9 (B 2 l 12 u) ≤ B 4 (B 6 p 0 t) 9 (B 2 l 12 t)) → ∃ r, f_Layout_nextPlace_65 (f_Layout_nextPlace_7 K n) K (B 6 p 0 u) u l p b F B = some (r, F, B) ∧ NPq p l b V r F B := fun hm => by
      unfold f_Layout_nextPlace_65
      rw [if_pos hq, if_pos hl, if_pos (by first | decide | omega), if_pos (by first | decide | omega)]
      refine nxt _ (Or.inr ⟨k9, ⟨u, u0, (by first | decide | omega), nc, nb, rfl⟩, fun t t0 t1 t2 t3 => ?_⟩)
      by_cases c : t < u
      · exact hm t t0 c t2 t3
      · rw [st t t1 c]; exact Int.le_refl _
    have vb : -1 ≤ v ∧ v ≤ 1000000000000 := by
      rcases hv with h' | h'
      · have v1 := h'.1
        clear h'
        omega
      · have v1 := h'.1
        clear h'
        omega
    rw [if_neg (by first | decide | omega), if_pos (by unfold r64; omega)]
    by_cases c1 : zcmp v 0 < 0
    · rw [if_pos c1]
      have := zcmp_lt.mp c1
      rcases hv with ⟨_, hv⟩ | h'
      · exact o65 (fun t t0 t1 t2 t3 => absurd ⟨t2, t3⟩ (hv t t0 t1))
      · have v1 := h'.1
        clear h'
        omega
    rw [if_neg c1, if_pos (by first | decide | omega), if_pos (by unfold r64; omega)]
    have v0 : 0 ≤ v := by
      by_cases z : 0 ≤ v
      · exact z
      · exact absurd (zcmp_lt.mpr (by first | decide | omega)) c1
    rcases hv with ⟨v1, _⟩ | ⟨v1, ⟨s, s0, s1, s2⟩, hv⟩
    · omega
    by_cases c2 : 0 ≤ zcmp (B 4 (B 6 p 0 u) 9 (B 2 l 12 u)) v
    · rw [if_pos c2]
      have le : v ≤ B 4 (B 6 p 0 u) 9 (B 2 l 12 u) := by
        by_cases z : v ≤ B 4 (B 6 p 0 u) 9 (B 2 l 12 u)
        · exact z
        · have := zcmp_lt.mpr (show B 4 (B 6 p 0 u) 9 (B 2 l 12 u) < v by omega)
          omega
      refine nxt v (Or.inr ⟨v1, ⟨s, s0, (by first | decide | omega), s2⟩, fun t t0 t1 t2 t3 => ?_⟩)
      by_cases c : t < u
      · exact hv t t0 c t2 t3
      · rw [st t t1 c]; exact le
    · rw [if_neg c2]
      have lt : B 4 (B 6 p 0 u) 9 (B 2 l 12 u) < v := zcmp_lt.mp (by first | decide | omega)
      exact o65 (fun t t0 t1 t2 t3 => by have := hv t t0 t1 t2 t3; omega)
/-- whether voice u has a note at place x of bar b just ahead -/
def mtX (p l b x u : Int) (F : zF) (B : zB) : Prop := B 2 l 12 u < F 4 (B 6 p 0 u) 10 ∧ B 4 (B 6 p 0 u) 361 (B 2 l 12 u) = b ∧ B 4 (B 6 p 0 u) 9 (B 2 l 12 u) = x
/-- the notes of voice u at place x of bar b -/
theorem NX_1 {F : zF} {B Bm : zB} {b X x u : Int} (hE : ENl V p w F B Bm) (h : PQl K V p F B) (hN : NXs V p l b X F B) (Xx : X < x) (x0 : 0 ≤ x) (hm : ∀ t, 0 ≤ t → t < V → B 2 l 12 t < F 4 (B 6 p 0 t) 10 → B 4 (B 6 p 0 t) 361 (B 2 l 12 t) = b → x ≤ B 4 (B 6 p 0 t) 9 (B 2 l 12 t)) (u0 : 0 ≤ u) (u1 : u < V) : ∀ i, 0 ≤ i → i < F 4 (B 6 p 0 u) 10 → B 4 (B 6 p 0 u) 361 i = b → B 4 (B 6 p 0 u) 9 i = x → i = B 2 l 12 u := fun i i0 i1 e1 e2 => by
  obtain ⟨n1, n2, n3⟩ := hN u u0 u1
  by_cases c1 : i < B 2 l 12 u
  · have := n2 i i0 c1
    omega
  by_cases c2 : i = B 2 l 12 u
  · exact c2
  exfalso
  have o := EN_m hE u0 u1 n1.1 (show B 2 l 12 u < i by omega) i1
  have g := n3 (by first | decide | omega)
  have m := hm u u0 u1 (by first | decide | omega)
  unfold LX at o
  rcases g with g | ⟨g, _⟩
  · omega
  · have := m g
    omega
theorem NX_a {F : zF} {B Bm : zB} {b X x u : Int} (hE : ENl V p w F B Bm) (h : PQl K V p F B) (hN : NXs V p l b X F B) (Xx : X < x) (x0 : 0 ≤ x) (hm : ∀ t, 0 ≤ t → t < V → B 2 l 12 t < F 4 (B 6 p 0 t) 10 → B 4 (B 6 p 0 t) 361 (B 2 l 12 t) = b → x ≤ B 4 (B 6 p 0 t) 9 (B 2 l 12 t)) (u0 : 0 ≤ u) (u1 : u < V) (y : Int) : (mtX p l b x u F B → (sNt V w b x (800 * (u + 1)) Bm y ↔ sNt V w b x (800 * u) Bm y ∨ y = 800 * u + B 2 l 12 u)) ∧ (¬ mtX p l b x u F B → (sNt V w b x (800 * (u + 1)) Bm y ↔ sNt V w b x (800 * u) Bm y)) := by
  have n1 := NX_1 hE h hN Xx x0 hm u0 u1
  have ct : ∀ t, 0 ≤ t → t < V → F 4 (B 6 p 0 t) 10 ≤ 800 := fun t t0 t1 => (h.2.2.2.2.2.2 t t0 t1).2.1.2
  have key : sNt V w b x (800 * (u + 1)) Bm y → sNt V w b x (800 * u) Bm y ∨ (y = 800 * u + B 2 l 12 u ∧ mtX p l b x u F B) := fun hy => by
    obtain ⟨t, i, a0, a1, a2, a3, a4, a5, a6, a7⟩ := (EN_s hE h x0).mp hy
    by_cases c : t = u
    · subst c
      have e := n1 i a2 a3 a5 a6
      rw [e] at a3 a4 a5 a6
      exact Or.inr ⟨a4, a3, a5, a6⟩
    · have := ct t a0 a1
      exact Or.inl ((EN_s hE h x0).mpr ⟨t, i, a0, a1, a2, a3, a4, a5, a6, (by first | decide | omega)⟩)
  have bk : sNt V w b x (800 * u) Bm y → sNt V w b x (800 * (u + 1)) Bm y := fun hy => by
    obtain ⟨t, a0, a1, a2, a3, a4, a5, a6, a7⟩ := hy
    exact ⟨t, a0, a1, a2, a3, a4, a5, a6, (by first | decide | omega)⟩
  refine ⟨fun m => ⟨fun hy => (key hy).imp id (fun z => z.1), fun hy => ?_⟩, fun m => ⟨fun hy => ?_, bk⟩⟩
  · rcases hy with hy | e
    · exact bk hy
    · obtain ⟨m1, m2, m3⟩ := m
      have := ct u u0 u1
      exact (EN_s hE h x0).mpr ⟨u, B 2 l 12 u, u0, u1, (hN u u0 u1).1.1, m1, e, m2, m3, (by first | decide | omega)⟩
  · rcases key hy with z | z
    · exact z
    · exact absurd z.2 m
theorem C_ac34X {F : zF} {B0 Bm : zB} {b X x : Int} (hl : 0 ≤ l ∧ l < K.2 2) (hF : 0 ≤ F 2 l 4 ∧ F 2 l 4 < 3200) (rb : r32 b) (h0 : PQl K V p F B0) (hE : ENl V p w F B0 Bm) (hN : NXs V p l b X F B0) (Xx : X < x) (x0 : 0 ≤ x ∧ x ≤ 1000000000000) (hm : ∀ t, 0 ≤ t → t < V → B0 2 l 12 t < F 4 (B0 6 p 0 t) 10 → B0 4 (B0 6 p 0 t) 361 (B0 2 l 12 t) = b → x ≤ B0 4 (B0 6 p 0 t) 9 (B0 2 l 12 t)) : ∀ (d N : Nat) (u f l6 : Int) (B : zB), u + d = V → 0 ≤ u → d < N → FQy V w b x (800 * u) Bm f l6 → (∀ c y k z, ¬ (c = 2 ∧ y = l ∧ k = 12) → B c y k z = B0 c y k z) → (∀ t, u ≤ t → B 2 l 12 t = B0 2 l 12 t) → (∀ t, 0 ≤ t → t < u → (mtX p l b x t F B0 → B 2 l 12 t = B0 2 l 12 t + 1) ∧ (¬ mtX p l b x t F B0 → B 2 l 12 t = B0 2 l 12 t)) → ∃ f' dt' B', f_Layout_addColumn_34 K N u l6 (if f = 0 then 0 else 6) x l p b F B = some (1, F, zup4 (zup4 B' 2 l 1 (F 2 l 4) x) 2 l 2 (F 2 l 4) (8 + (if f' = 0 then 0 else 6) + 3 * dt')) ∧ FQy V w b x (800 * V) Bm f' dt' ∧ (∀ c y k z, ¬ (c = 2 ∧ y = l ∧ k = 12) → B' c y k z = B0 c y k z) ∧ (∀ t, 0 ≤ t → t < V → (mtX p l b x t F B0 → B' 2 l 12 t = B0 2 l 12 t + 1) ∧ (¬ mtX p l b x t F B0 → B' 2 l 12 t = B0 2 l 12 t)) := by
  have hV := h0.2.1
  intro d
  induction d with
  | zero =>
    intro N u f l6 B hu u0 hN' hf hb h1 h2
    obtain ⟨n, rfl⟩ : ∃ n, N = n + 1 := ⟨N - 1, (by first | decide | omega)⟩
    have e : u = V := by omega
    rw [e] at hf h2
    rw [f_Layout_addColumn_34, if_pos h0.1, if_pos (by unfold r32; omega), if_pos (by unfold r32; omega), if_pos (by first | decide | omega), if_pos hl, if_pos hF]
    exact ⟨f, l6, B, rfl, hf, hb, h2⟩
  | succ d ih =>
    intro N u f l6 B hu u0 hN' hf hb h1 h2
    obtain ⟨n, rfl⟩ : ∃ n, N = n + 1 := ⟨N - 1, (by first | decide | omega)⟩
    have hq0 := h0.2.2.2.2.2.2 u u0 (by first | decide | omega)
    obtain ⟨hq, hc, hi⟩ := hq0
    have e6 : ∀ z, B 6 p 0 z = B0 6 p 0 z := fun z => hb 6 p 0 z (by first | decide | omega)
    have e4 : ∀ q k z, B 4 q k z = B0 4 q k z := fun q k z => hb 4 q k z (by first | decide | omega)
    have h : PQl K V p F B := by
      unfold PQl at *
      simp only [e6, e4]
      exact h0
    have e12 : B 2 l 12 u = B0 2 l 12 u := h1 u (Int.le_refl _)
    have b12 := (hN u u0 (by first | decide | omega)).1
    obtain ⟨r, e, r01⟩ := C_begX h u0 (by first | decide | omega) (i := B0 2 l 12 u) ⟨b12.1, (by first | decide | omega)⟩ rb
    rw [e6, e4] at r01
    rw [e6] at e
    have nxa := fun y => NX_a hE h0 hN Xx x0.1 hm u0 (show u < V by omega) y
    have fr := hf.2.1
    -- nothing there
    have same : ¬ mtX p l b x u F B0 → ∃ f' dt' B', f_Layout_addColumn_136 (f_Layout_addColumn_34 K n) K u l6 (if f = 0 then 0 else 6) x l p b F B = some (1, F, zup4 (zup4 B' 2 l 1 (F 2 l 4) x) 2 l 2 (F 2 l 4) (8 + (if f' = 0 then 0 else 6) + 3 * dt')) ∧ FQy V w b x (800 * V) Bm f' dt' ∧ (∀ c y k z, ¬ (c = 2 ∧ y = l ∧ k = 12) → B' c y k z = B0 c y k z) ∧ (∀ t, 0 ≤ t → t < V → (mtX p l b x t F B0 → B' 2 l 12 t = B0 2 l 12 t + 1) ∧ (¬ mtX p l b x t F B0 → B' 2 l 12 t = B0 2 l 12 t)) := fun nm => by
      rw [f_Layout_addColumn_136]
      refine ih n (u + 1) f l6 B (by first | decide | omega) (by first | decide | omega) (by first | decide | omega) (FQy_c hf (fun y => (nxa y).2 nm)) hb (fun t t0 => h1 t (by first | decide | omega)) (fun t t0 t1 => ?_)
      by_cases c : t < u
      · exact h2 t t0 c
      · rw [show t = u by omega]
        exact ⟨fun m => absurd m nm, fun _ => e12⟩
    rw [f_Layout_addColumn_34, if_pos h0.1, if_pos (by unfold r32; omega), if_pos (by unfold r32; omega), if_neg (by first | decide | omega), if_pos (by first | decide | omega), if_pos hl, e6, if_pos hq, e12, e, zb_s, if_pos (by unfold r32; omega)]
    rcases r01 with ⟨rz, nb⟩ | ⟨r1, nc, nb⟩
    · rw [if_pos rz]
      exact same (fun m => nb ⟨m.1, m.2.1⟩)
    obtain ⟨k1, k9, k5, k7⟩ := hi (B0 2 l 12 u) b12.1 nc
    rw [if_neg (by first | decide | omega), if_pos (by first | decide | omega), e4, if_pos (by unfold r64; omega), if_pos (by unfold r64; omega)]
    by_cases c1 : zcmp (B0 4 (B0 6 p 0 u) 9 (B0 2 l 12 u)) x = 0
    case neg =>
      rw [if_neg c1]
      exact same (fun m => c1 (zcmp_0.mpr m.2.2))
    have m : mtX p l b x u F B0 := ⟨nc, nb, zcmp_0.mp c1⟩
    obtain ⟨g1, g2⟩ := hE u u0 (by first | decide | omega)
    obtain ⟨_, _, _, g5, ⟨g7, g0⟩, _⟩ := g2 (B0 2 l 12 u) b12.1 nc
    rw [if_pos c1, e4, if_pos k7]
    have o106 : ∀ f2 : Int, ((f = 0 ∧ Bm 13 w 37 (800 * u + B0 2 l 12 u) ≤ 0 ∧ f2 = 0) ∨ (f2 = 1 ∧ (f = 1 ∨ 0 < Bm 13 w 37 (800 * u + B0 2 l 12 u)))) → ∃ f' dt' B', f_Layout_addColumn_106 (f_Layout_addColumn_34 K n) K (B0 2 l 12 u) (B0 6 p 0 u) u l6 x l p b (if f2 = 0 then 0 else 6) F B = some (1, F, zup4 (zup4 B' 2 l 1 (F 2 l 4) x) 2 l 2 (F 2 l 4) (8 + (if f' = 0 then 0 else 6) + 3 * dt')) ∧ FQy V w b x (800 * V) Bm f' dt' ∧ (∀ c y k z, ¬ (c = 2 ∧ y = l ∧ k = 12) → B' c y k z = B0 c y k z) ∧ (∀ t, 0 ≤ t → t < V → (mtX p l b x t F B0 → B' 2 l 12 t = B0 2 l 12 t + 1) ∧ (¬ mtX p l b x t F B0 → B' 2 l 12 t = B0 2 l 12 t)) := fun f2 hf2 => by
      unfold f_Layout_addColumn_106
      rw [if_pos hq, if_pos (by first | decide | omega), if_pos (by unfold r32; omega), e4, if_pos (by unfold r32; omega), if_pos hl, if_pos (by first | decide | omega), f_Layout_addColumn_136, e12]
      refine ih n (u + 1) f2 (zmax l6 (B0 4 (B0 6 p 0 u) 365 (B0 2 l 12 u))) (zup4 B 2 l 12 u (B0 2 l 12 u + 1)) (by first | decide | omega) (by first | decide | omega) (by first | decide | omega) (FQy_a hf (fun y => (nxa y).1 m) hf2 ?_) (fun c y k z nn => by rw [zup4_v, if_neg (by first | decide | omega)]; exact hb c y k z nn) (fun t t0 => by rw [zup4_v, if_neg (by first | decide | omega)]; exact h1 t (by first | decide | omega)) (fun t t0 t1 => ?_)
      · rw [g5]
        unfold zmax
        split <;> omega
      · by_cases c : t < u
        · rw [zup4_v, if_neg (by first | decide | omega)]
          exact h2 t t0 c
        · rw [show t = u by omega, zup4_v, if_pos ⟨rfl, rfl, rfl, rfl⟩]
          exact ⟨fun _ => rfl, fun nm => absurd m nm⟩
    by_cases c2 : B0 4 (B0 6 p 0 u) 367 (B0 2 l 12 u) = 0
    · rw [if_pos c2]
      refine o106 f ?_
      rw [g7]
      rcases hf.1 with ⟨z, _⟩ | ⟨z, _⟩
      · exact Or.inl ⟨z, (by first | decide | omega), z⟩
      · exact Or.inr ⟨z, Or.inl z⟩
    · rw [if_neg c2]
      have := o106 1 (Or.inr ⟨rfl, Or.inr (by rw [g7]; omega)⟩)
      rw [if_neg (show ¬ (1 : Int) = 0 by decide)] at this
      exact this
theorem smR_le {f g : Int → Int} : ∀ (n : Nat) (a : Int), (∀ j, a ≤ j → j < a + n → f j ≤ g j) → smR f a n ≤ smR g a n := by
  intro n
  induction n with
  | zero => intro a _; exact Int.le_refl _
  | succ n ih =>
    intro a h
    have h1 := h a (Int.le_refl _) (by first | decide | omega)
    have h2 := ih (a + 1) (fun j j0 j1 => h j (by first | decide | omega) (by first | decide | omega))
    rw [smR, smR]
    omega
theorem smR_lt {f g : Int → Int} : ∀ (n : Nat) (a t : Int), (∀ j, a ≤ j → j < a + n → f j ≤ g j) → a ≤ t → t < a + n → f t + 1 ≤ g t → smR f a n + 1 ≤ smR g a n := by
  intro n
  induction n with
  | zero => intro a t _ _ _ _; exfalso; omega
  | succ n ih =>
    intro a t h t0 t1 ht
    rw [smR, smR]
    by_cases c : t = a
    · have h2 := smR_le (f := f) (g := g) n (a + 1) (fun j j0 j1 => h j (by first | decide | omega) (by first | decide | omega))
      rw [c] at ht
      omega
    · have h1 := h a (Int.le_refl _) (by first | decide | omega)
      have h2 := ih (a + 1) t (fun j j0 j1 => h j (by first | decide | omega) (by first | decide | omega)) (by first | decide | omega) (by first | decide | omega) ht
      omega
theorem smR_k {c : Int} : ∀ (n : Nat) (a : Int), smR (fun _ => c) a n = c * n := by
  intro n
  induction n with
  | zero => intro a; rw [smR]; omega
  | succ n ih =>
    intro a
    rw [smR, ih (a + 1), show ((n + 1 : Nat) : Int) = (n : Int) + 1 by omega, Int.mul_add, Int.mul_one]
    omega
/-- how many notes are behind -/
def nxS (V l : Int) (B : zB) : Int := smR (fun u => B 2 l 12 u) 0 V.toNat
theorem C_addX {F : zF} {B Bm : zB} {b X : Int} (hK : 60000 ≤ K.1) (h : PQl K V p F B) (hl : 0 ≤ l ∧ l < K.2 2) (hE : ENl V p w F B Bm) (hN : NXs V p l b X F B) (X0 : -1 ≤ X) (hF : 0 ≤ F 2 l 4 ∧ F 2 l 4 ≤ nxS V l B) (rb : r32 b) : (f_Layout_addColumn K l p b F B = some (0, F, B) ∧ NXs V p l (b + 1) (-1) F B ∧ ∀ x, aNt V w b (800 * V) Bm x → x ≤ X) ∨ (∃ x f dt B', f_Layout_addColumn K l p b F B = some (1, F, B') ∧ (X < x ∧ x ≤ 1000000000000) ∧ F 2 l 4 < 3200 ∧ FQy V w b x (800 * V) Bm f dt ∧ (B' 2 l 1 (F 2 l 4) = x ∧ B' 2 l 2 (F 2 l 4) = 8 + (if f = 0 then 0 else 6) + 3 * dt) ∧ (∀ c y k z, ¬ (c = 2 ∧ y = l ∧ (k = 12 ∨ ((k = 1 ∨ k = 2) ∧ z = F 2 l 4))) → B' c y k z = B c y k z) ∧ NXs V p l b x F B' ∧ F 2 l 4 + 1 ≤ nxS V l B' ∧ ∀ y, (aNt V w b (800 * V) Bm y ∧ y ≤ x) ↔ (aNt V w b (800 * V) Bm y ∧ y ≤ X) ∨ y = x) := by
  have hV := h.2.1
  have ct : ∀ t, 0 ≤ t → t < V → F 4 (B 6 p 0 t) 10 ≤ 800 := fun t t0 t1 => (h.2.2.2.2.2.2 t t0 t1).2.1.2
  obtain ⟨r, e, hr⟩ := C_npX h hl (fun u u0 u1 => (hN u u0 u1).1) rb V.toNat K.1 0 (-1) (by first | decide | omega) (by decide) (by first | decide | omega) (Or.inl ⟨rfl, fun t a c => (by first | decide | omega)⟩)
  have e' : f_Layout_nextPlace K l p b F B = some (r, F, B) := e
  -- every note of the bar that is not behind
  have nt : ∀ y, aNt V w b (800 * V) Bm y → y ≤ X ∨ ∃ t, 0 ≤ t ∧ t < V ∧ B 2 l 12 t < F 4 (B 6 p 0 t) 10 ∧ B 4 (B 6 p 0 t) 361 (B 2 l 12 t) = b ∧ B 4 (B 6 p 0 t) 9 (B 2 l 12 t) ≤ y := fun y hy => by
    obtain ⟨y0, z, hz⟩ := hy
    obtain ⟨t, i, a0, a1, a2, a3, a4, a5, a6, a7⟩ := (EN_s hE h y0).mp hz
    obtain ⟨n1, n2, n3⟩ := hN t a0 a1
    by_cases c : i < B 2 l 12 t
    · have := n2 i a2 c
      exact Or.inl (by first | decide | omega)
    · by_cases c2 : i = B 2 l 12 t
      · rw [c2] at a3 a5 a6
        exact Or.inr ⟨t, a0, a1, a3, a5, (by first | decide | omega)⟩
      · have o := EN_m hE a0 a1 n1.1 (show B 2 l 12 t < i by omega) a3
        have g := n3 (by first | decide | omega)
        unfold LX at o
        exact Or.inr ⟨t, a0, a1, (by first | decide | omega), (by first | decide | omega), (by first | decide | omega)⟩
  unfold f_Layout_addColumn f_Layout_addColumn_23
  rw [if_pos hl, e', zb_s]
  rcases hr with ⟨r1, hr⟩ | ⟨r1, ⟨s, s0, s1, s2, s3, s4⟩, hm⟩
  · rw [if_pos (by unfold r64; omega), if_pos (zcmp_lt.mpr (by first | decide | omega))]
    refine Or.inl ⟨rfl, fun u u0 u1 => ?_, fun y hy => ?_⟩
    · obtain ⟨n1, n2, n3⟩ := hN u u0 u1
      refine ⟨n1, fun i i0 i1 => Or.inl ?_, fun c => ?_⟩
      · have := n2 i i0 i1
        omega
      · have g := n3 c
        have ne := hr u u0 u1
        have k := ((h.2.2.2.2.2.2 u u0 u1).2.2 (B 2 l 12 u) n1.1 c).2.1.1
        rcases g with g | g
        · by_cases z : B 4 (B 6 p 0 u) 361 (B 2 l 12 u) = b + 1
          · exact Or.inr ⟨z, (by first | decide | omega)⟩
          · exact Or.inl (by first | decide | omega)
        · exact absurd ⟨c, g.1⟩ ne
    · rcases nt y hy with z | ⟨t, t0, t1, t2, t3, _⟩
      · exact z
      · exact absurd ⟨t2, t3⟩ (hr t t0 t1)
  · have Xr : X < r := by
      have g := (hN s s0 s1).2.2 s2
      omega
    have hm' : ∀ t, 0 ≤ t → t < V → B 2 l 12 t < F 4 (B 6 p 0 t) 10 → B 4 (B 6 p 0 t) 361 (B 2 l 12 t) = b → r ≤ B 4 (B 6 p 0 t) 9 (B 2 l 12 t) := hm
    have up : nxS V l B + 1 ≤ 800 * V := by
      have a1 := smR_lt (f := fun u => B 2 l 12 u) (g := fun _ => (800 : Int)) V.toNat 0 s (fun j j0 j1 => by
        have := ct j j0 (by first | decide | omega)
        have := (hN j j0 (by first | decide | omega)).1
        show B 2 l 12 j ≤ 800
        omega) s0 (by first | decide | omega) (by
        have := ct s s0 s1
        show B 2 l 12 s + 1 ≤ 800
        omega)
      rw [smR_k] at a1
      unfold nxS
      omega
    rw [if_pos (by unfold r64; omega), if_neg (fun z => by have := zcmp_lt.mp z; omega), if_pos (by unfold r32; omega), if_pos (by first | decide | omega)]
    obtain ⟨f, dt, B', g1, g2, g3, g4⟩ := C_ac34X (b := b) (X := X) (x := r) (B0 := B) (Bm := Bm) (w := w) hl ⟨hF.1, (by first | decide | omega)⟩ rb h hE hN Xr r1 hm' V.toNat K.1 0 0 0 B (by first | decide | omega) (by decide) (by first | decide | omega) ⟨Or.inl ⟨rfl, fun y hy => by
      obtain ⟨u', a0, a1, a2, a3, a4, a5, a6, a7⟩ := hy
      omega⟩, by decide, fun y hy => by
      obtain ⟨u', a0, a1, a2, a3, a4, a5, a6, a7⟩ := hy
      omega, Or.inl rfl⟩ (fun _ _ _ _ _ => rfl) (fun _ _ => rfl) (fun t a c => (by first | decide | omega))
    rw [if_pos (show (0 : Int) = 0 from rfl)] at g1
    generalize hB2 : zup4 (zup4 B' 2 l 1 (F 2 l 4) r) 2 l 2 (F 2 l 4) (8 + (if f = 0 then 0 else 6) + 3 * dt) = B2 at g1
    have bn : ∀ c y k z, ¬ (c = 2 ∧ y = l ∧ (k = 12 ∨ ((k = 1 ∨ k = 2) ∧ z = F 2 l 4))) → B2 c y k z = B c y k z := fun c y k z nn => by rw [← hB2, zup4_v, if_neg (by first | decide | omega), zup4_v, if_neg (by first | decide | omega)]; exact g3 c y k z (by first | decide | omega)
    have b12 : ∀ t, B2 2 l 12 t = B' 2 l 12 t := fun t => by rw [← hB2, zup4_v, if_neg (by first | decide | omega), zup4_v, if_neg (by first | decide | omega)]
    have e6 : ∀ t, B2 6 p 0 t = B 6 p 0 t := fun t => bn 6 p 0 t (by first | decide | omega)
    have e4 : ∀ q k z, B2 4 q k z = B 4 q k z := fun q k z => bn 4 q k z (by first | decide | omega)
    have up12 : ∀ t, 0 ≤ t → t < V → (mtX p l b r t F B ∧ B2 2 l 12 t = B 2 l 12 t + 1) ∨ (¬ mtX p l b r t F B ∧ B2 2 l 12 t = B 2 l 12 t) := fun t t0 t1 => by
      rw [b12]
      by_cases m : mtX p l b r t F B
      · exact Or.inl ⟨m, (g4 t t0 t1).1 m⟩
      · exact Or.inr ⟨m, (g4 t t0 t1).2 m⟩
    refine Or.inr ⟨r, f, dt, B2, g1, ⟨Xr, r1.2⟩, (by first | decide | omega), g2, ⟨by rw [← hB2, zup4_v, if_neg (by first | decide | omega), zup4_v, if_pos ⟨rfl, rfl, rfl, rfl⟩], by rw [← hB2, zup4_v, if_pos ⟨rfl, rfl, rfl, rfl⟩]⟩, bn, fun u u0 u1 => ?_, ?_, fun y => ⟨fun hy => ?_, fun hy => ?_⟩⟩
    · obtain ⟨n1, n2, n3⟩ := hN u u0 u1
      rw [e6]
      simp only [e4]
      rcases up12 u u0 u1 with ⟨m, eu⟩ | ⟨m, eu⟩
      · rw [eu]
        obtain ⟨m1, m2, m3⟩ := m
        refine ⟨(by first | decide | omega), fun i i0 i1 => ?_, fun c => ?_⟩
        · by_cases z : i = B 2 l 12 u
          · rw [z]; exact Or.inr ⟨m2, (by first | decide | omega)⟩
          · have := n2 i i0 (by first | decide | omega)
            omega
        · have o := EN_m hE u0 u1 n1.1 (show B 2 l 12 u < B 2 l 12 u + 1 by omega) c
          unfold LX at o
          rw [m2, m3] at o
          omega
      · rw [eu]
        refine ⟨n1, fun i i0 i1 => ?_, fun c => ?_⟩
        · have := n2 i i0 i1
          omega
        · have g := n3 c
          by_cases z : B 4 (B 6 p 0 u) 361 (B 2 l 12 u) = b
          · have k := hm u u0 u1 c z
            have ne : ¬ B 4 (B 6 p 0 u) 9 (B 2 l 12 u) = r := fun q => m ⟨c, z, q⟩
            exact Or.inr ⟨z, (by first | decide | omega)⟩
          · exact Or.inl (by first | decide | omega)
    · have a1 := smR_lt (f := fun u => B 2 l 12 u) (g := fun u => B2 2 l 12 u) V.toNat 0 s (fun j j0 j1 => by
        show B 2 l 12 j ≤ B2 2 l 12 j
        rcases up12 j j0 (by first | decide | omega) with ⟨_, q⟩ | ⟨_, q⟩ <;> omega) s0 (by first | decide | omega) (by
        show B 2 l 12 s + 1 ≤ B2 2 l 12 s
        rcases up12 s s0 s1 with ⟨_, q⟩ | ⟨q, _⟩
        · omega
        · exact absurd ⟨s2, s3, s4⟩ q)
      unfold nxS at hF ⊢
      omega
    · obtain ⟨y1, y2⟩ := hy
      rcases nt y y1 with z | ⟨t, t0, t1, t2, t3, t4⟩
      · exact Or.inl ⟨y1, z⟩
      · have := hm t t0 t1 t2 t3
        exact Or.inr (by first | decide | omega)
    · rcases hy with ⟨y1, y2⟩ | e
      · exact ⟨y1, (by first | decide | omega)⟩
      · rw [e]
        refine ⟨⟨r1.1, 800 * s + B 2 l 12 s, (EN_s hE h r1.1).mpr ⟨s, B 2 l 12 s, s0, s1, (hN s s0 s1).1.1, s2, rfl, s3, s4, ?_⟩⟩, Int.le_refl _⟩
        have := ct s s0 s1
        omega
end
end
section
section
/-! ===== the columns of a piece, class: exactly, whole ===== -/
variable {K : zK} {V p l w : Int}
theorem C_wd57X {F : zF} {j b : Int} {rec : Int → Int → Int → zF → zB → zO} (hl : 0 ≤ l ∧ l < K.2 2) (hj : 0 ≤ j ∧ j < 3200) : ∀ (d N : Nat) (i v : Int) (B : zB), i + d = 40 → 0 ≤ i → d < N → (0 ≤ v ∧ v ≤ 1000000000000) → ∃ B', f_Layout_widen_57 rec K N i v j l b F B = f_Layout_widen_98 rec K j l b F B' ∧ B' 2 l 2 j = B 2 l 2 j + 4 * lw2 d v ∧ ∀ c y k x, ¬ (c = 2 ∧ y = l ∧ k = 2 ∧ x = j) → B' c y k x = B c y k x := by
  intro d
  induction d with
  | zero =>
    intro N i v B hi i0 hN hv
    obtain ⟨n, rfl⟩ : ∃ n, N = n + 1 := ⟨N - 1, (by first | decide | omega)⟩
    rw [f_Layout_widen_57, if_pos (by unfold r32; omega), if_pos (by first | decide | omega)]
    exact ⟨B, rfl, by rw [lw2]; omega, fun _ _ _ _ _ => rfl⟩
  | succ d ih =>
    intro N i v B hi i0 hN hv
    obtain ⟨n, rfl⟩ : ∃ n, N = n + 1 := ⟨N - 1, (by first | decide | omega)⟩
    rw [f_Layout_widen_57, if_pos (by unfold r32; omega), if_neg (by first | decide | omega), if_pos (show r64 v by unfold r64; omega)]
    by_cases c : v < 2
    · rw [if_pos (zcmp_lt.mpr c)]
      exact ⟨B, rfl, by rw [lw2, if_pos c]; omega, fun _ _ _ _ _ => rfl⟩
    rw [if_neg (fun z => c (zcmp_lt.mp z)), if_pos hl, if_pos hj, zldv_e hv.1 (by first | decide | omega) (by decide) (by decide)]
    obtain ⟨B', g1, g2, g3⟩ := ih n (i + 1) (v / 2) (zup4 B 2 l 2 j (B 2 l 2 j + 4)) (by first | decide | omega) (by first | decide | omega) (by first | decide | omega) (by first | decide | omega)
    refine ⟨B', g1, ?_, fun c y k x nn => by rw [g3 c y k x nn, zup4_v, if_neg nn]⟩
    rw [g2, lw2, if_neg c, up_s]
    omega
theorem C_wd3X {F : zF} {b : Int} (hK : 60000 ≤ K.1) (hl : 0 ≤ l ∧ l < K.2 2) (hF : 0 ≤ F 2 l 4 ∧ F 2 l 4 ≤ 3200) : ∀ (d N : Nat) (j : Int) (B : zB), j + d = F 2 l 4 → 0 ≤ j → d < N → (∀ x, j ≤ x → x < F 2 l 4 → 0 ≤ B 2 l 1 x ∧ B 2 l 1 x ≤ (if x + 1 = F 2 l 4 then b else B 2 l 1 (x + 1)) ∧ (if x + 1 = F 2 l 4 then b else B 2 l 1 (x + 1)) ≤ 1000000000000) → ∃ B', f_Layout_widen_3 K N j l b F B = some (0, F, B') ∧ (∀ x, j ≤ x → x < F 2 l 4 → B' 2 l 2 x = B 2 l 2 x + 4 * lw2 40 (((if x + 1 = F 2 l 4 then b else B 2 l 1 (x + 1)) - B 2 l 1 x) / 6350400)) ∧ ∀ c y k x, ¬ (c = 2 ∧ y = l ∧ k = 2 ∧ j ≤ x ∧ x < F 2 l 4) → B' c y k x = B c y k x := by
  intro d
  induction d with
  | zero =>
    intro N j B hj j0 hN h2
    obtain ⟨n, rfl⟩ : ∃ n, N = n + 1 := ⟨N - 1, (by first | decide | omega)⟩
    rw [f_Layout_widen_3, if_pos hl, if_pos (by unfold r32; omega), if_pos (by unfold r32; omega), if_pos (by first | decide | omega)]
    exact ⟨B, rfl, fun x a c => (by first | decide | omega), fun _ _ _ _ _ => rfl⟩
  | succ d ih =>
    intro N j B hj j0 hN h2
    obtain ⟨n, rfl⟩ : ∃ n, N = n + 1 := ⟨N - 1, (by first | decide | omega)⟩
    obtain ⟨q0, q1, q2⟩ := h2 j (Int.le_refl _) (by first | decide | omega)
    have o : ∀ s, s = (if j + 1 = F 2 l 4 then b else B 2 l 1 (j + 1)) → ∃ B', f_Layout_widen_36 (f_Layout_widen_3 K n) K j l b s F B = some (0, F, B') ∧ (∀ x, j ≤ x → x < F 2 l 4 → B' 2 l 2 x = B 2 l 2 x + 4 * lw2 40 (((if x + 1 = F 2 l 4 then b else B 2 l 1 (x + 1)) - B 2 l 1 x) / 6350400)) ∧ ∀ c y k x, ¬ (c = 2 ∧ y = l ∧ k = 2 ∧ j ≤ x ∧ x < F 2 l 4) → B' c y k x = B c y k x := fun s hs => by
      rw [← hs] at q1 q2
      have dv : zldv (s - B 2 l 1 j) 6350400 = (s - B 2 l 1 j) / 6350400 := zldv_e (by first | decide | omega) (by first | decide | omega) (by decide) (by decide)
      have d0 : 0 ≤ (s - B 2 l 1 j) / 6350400 := Int.ediv_nonneg (by first | decide | omega) (by decide)
      have d1 : (s - B 2 l 1 j) / 6350400 ≤ s - B 2 l 1 j := Int.ediv_le_self _ (by first | decide | omega)
      obtain ⟨B1, g1, g2, g3⟩ := C_wd57X (K := K) (F := F) (j := j) (b := b) (rec := f_Layout_widen_3 K n) hl (by first | decide | omega) 40 K.1 0 ((s - B 2 l 1 j) / 6350400) B (by first | decide | omega) (by decide) (by first | decide | omega) ⟨d0, (by first | decide | omega)⟩
      have e1 : ∀ x, B1 2 l 1 x = B 2 l 1 x := fun x => g3 2 l 1 x (by first | decide | omega)
      obtain ⟨B2, k1, k2, k3⟩ := ih n (j + 1) B1 (by first | decide | omega) (by first | decide | omega) (by first | decide | omega) (fun x x0 x1 => by rw [e1, e1]; exact h2 x (by first | decide | omega) x1)
      unfold f_Layout_widen_36
      rw [if_pos hl, if_pos (by first | decide | omega), dv, g1, f_Layout_widen_98, k1]
      refine ⟨B2, rfl, fun x x0 x1 => ?_, fun c y k x nn => by rw [k3 c y k x (by first | decide | omega), g3 c y k x (by first | decide | omega)]⟩
      by_cases z : x = j
      · rw [z, k3 2 l 2 j (by first | decide | omega), g2, hs]
      · rw [k2 x (by first | decide | omega) x1, e1, e1, g3 2 l 2 x (by first | decide | omega)]
    rw [f_Layout_widen_3, if_pos hl, if_pos (by unfold r32; omega), if_pos (by unfold r32; omega), if_neg (by first | decide | omega), if_pos (by unfold r32; omega)]
    by_cases c1 : F 2 l 4 ≤ j + 1
    · rw [if_pos c1]; exact o b (by rw [if_pos (by first | decide | omega)])
    · rw [if_neg c1, if_pos (by first | decide | omega)]; exact o _ (by rw [if_neg (by first | decide | omega)])
theorem C_sc108X {F : zF} {a nb : Int} {rec : Int → Int → Int → Int → zF → zB → zO} (hl : 0 ≤ l ∧ l < K.2 2) (hF : 0 ≤ F 2 l 4 ∧ F 2 l 4 ≤ 3200) (ha : 0 ≤ a ∧ a < 100) : ∀ (d N : Nat) (j : Int) (B : zB), j + d = F 2 l 4 → 0 ≤ j → d < N → ∃ B', f_Layout_setColumns_108 rec K N j a l p nb F B = rec (a + 1) l p nb F B' ∧ B' 2 l 6 a = B 2 l 6 a + smR (fun x => B 2 l 2 x) j d ∧ ∀ c y k x, ¬ (c = 2 ∧ y = l ∧ k = 6 ∧ x = a) → B' c y k x = B c y k x := by
  intro d
  induction d with
  | zero =>
    intro N j B hj j0 hN
    obtain ⟨n, rfl⟩ : ∃ n, N = n + 1 := ⟨N - 1, (by first | decide | omega)⟩
    rw [f_Layout_setColumns_108, if_pos hl, if_pos (by unfold r32; omega), if_pos (by unfold r32; omega), if_pos (by first | decide | omega)]
    exact ⟨B, rfl, by rw [smR]; omega, fun _ _ _ _ _ => rfl⟩
  | succ d ih =>
    intro N j B hj j0 hN
    obtain ⟨n, rfl⟩ : ∃ n, N = n + 1 := ⟨N - 1, (by first | decide | omega)⟩
    rw [f_Layout_setColumns_108, if_pos hl, if_pos (by unfold r32; omega), if_pos (by unfold r32; omega), if_neg (by first | decide | omega), if_pos ha, if_pos (by first | decide | omega)]
    obtain ⟨B', g1, g2, g3⟩ := ih n (j + 1) (zup4 B 2 l 6 a (B 2 l 6 a + B 2 l 2 j)) (by first | decide | omega) (by first | decide | omega) (by first | decide | omega)
    refine ⟨B', g1, ?_, fun c y k x nn => by rw [g3 c y k x nn, zup4_v, if_neg nn]⟩
    rw [g2, smR, up_s, smR_c (f := fun x => B 2 l 2 x) (f' := fun x => (zup4 B 2 l 6 a (B 2 l 6 a + B 2 l 2 j)) 2 l 2 x) d (j + 1) (fun x _ _ => up_o (by decide))]
    omega
/-- bar b's columns so far: from s on, up to place X -/
def CC1 (V l w b s X : Int) (F : zF) (B Bm : zB) : Prop := (0 ≤ s ∧ s ≤ F 2 l 4 ∧ F 2 l 4 ≤ nxS V l B) ∧ B 2 l 5 b = s ∧ SI (F 2 l 4 - s) (fun t => B 2 l 1 (s + t)) ∧ RS (F 2 l 4 - s) (fun t => B 2 l 1 (s + t)) (fun y => aNt V w b (800 * V) Bm y ∧ y ≤ X) ∧ (s < F 2 l 4 → B 2 l 1 (F 2 l 4 - 1) = X) ∧ ∀ j, s ≤ j → j < F 2 l 4 → (0 ≤ B 2 l 1 j ∧ B 2 l 1 j ≤ 1000000000000) ∧ ∃ f dt, FQy V w b (B 2 l 1 j) (800 * V) Bm f dt ∧ B 2 l 2 j = 8 + (if f = 0 then 0 else 6) + 3 * dt
theorem nx_all {F : zF} {B Bm : zB} {b X : Int} (h : PQl K V p F B) (hE : ENl V p w F B Bm) (hN : NXs V p l b X F B) (hc : 3200 ≤ nxS V l B) : NXs V p l (b + 1) (-1) F B ∧ ∀ x, aNt V w b (800 * V) Bm x → x ≤ X := by
  have hV := h.2.1
  have ct : ∀ t, 0 ≤ t → t < V → F 4 (B 6 p 0 t) 10 ≤ 800 := fun t t0 t1 => (h.2.2.2.2.2.2 t t0 t1).2.1.2
  have al : ∀ t, 0 ≤ t → t < V → ¬ B 2 l 12 t < F 4 (B 6 p 0 t) 10 := fun t t0 t1 c => by
    have a1 := smR_lt (f := fun u => B 2 l 12 u) (g := fun _ => (800 : Int)) V.toNat 0 t (fun j j0 j1 => by
      have := ct j j0 (by first | decide | omega)
      have := (hN j j0 (by first | decide | omega)).1
      show B 2 l 12 j ≤ 800
      omega) t0 (by first | decide | omega) (by
      have := ct t t0 t1
      show B 2 l 12 t + 1 ≤ 800
      omega)
    rw [smR_k] at a1
    unfold nxS at hc
    omega
  refine ⟨fun u u0 u1 => ?_, fun y hy => ?_⟩
  · obtain ⟨n1, n2, n3⟩ := hN u u0 u1
    refine ⟨n1, fun i i0 i1 => Or.inl ?_, fun c => absurd c (al u u0 u1)⟩
    have := n2 i i0 i1
    omega
  · obtain ⟨y0, z, hz⟩ := hy
    obtain ⟨t, i, a0, a1, a2, a3, a4, a5, a6, a7⟩ := (EN_s hE h y0).mp hz
    obtain ⟨n1, n2, n3⟩ := hN t a0 a1
    have := al t a0 a1
    have := n2 i a2 (by first | decide | omega)
    omega
theorem C_sc45X {b nb : Int} {F0 : zF} {B0 Bm : zB} {rec : Int → Int → Int → Int → zF → zB → zO} (hK : 60000 ≤ K.1) (h : PQl K V p F0 B0) (hl : 0 ≤ l ∧ l < K.2 2) (hE : ENl V p w F0 B0 Bm) (rb : r32 b) {s : Int} : ∀ (d N : Nat) (i X : Int) (F : zF) (B : zB), i + d = 3200 → 0 ≤ i → d < N → lyF l F0 F → lyB l B0 B → F 2 l 0 = F0 2 l 0 → NXs V p l b X F B → -1 ≤ X → CC1 V l w b s X F B Bm → F 2 l 4 - s = i → ∃ F' B' X', f_Layout_setColumns_45 rec K N i b l p nb F B = f_Layout_setColumns_78 rec K b l p nb F' B' ∧ lyF l F0 F' ∧ lyB l B0 B' ∧ F' 2 l 0 = F0 2 l 0 ∧ NXs V p l (b + 1) (-1) F' B' ∧ CC1 V l w b s X' F' B' Bm ∧ (∀ y, aNt V w b (800 * V) Bm y → y ≤ X') ∧ (∀ k x, ¬ (k = 12 ∨ ((k = 1 ∨ k = 2) ∧ s ≤ x)) → B' 2 l k x = B 2 l k x) := by
  have hV := h.2.1
  intro d
  induction d with
  | zero =>
    intro N i X F B hi i0 hN f g h0 hX X0 hC ci
    obtain ⟨n, rfl⟩ : ∃ n, N = n + 1 := ⟨N - 1, (by first | decide | omega)⟩
    have hq := PQ_f h f g
    have he := EN_f hE f g
    have a := nx_all hq he hX (by have := hC.1; omega)
    rw [f_Layout_setColumns_45, if_pos (by unfold r32; omega), if_pos (by first | decide | omega)]
    exact ⟨F, B, X, rfl, f, g, h0, a.1, hC, a.2, fun _ _ _ => rfl⟩
  | succ d ih =>
    intro N i X F B hi i0 hN f g h0 hX X0 hC ci
    obtain ⟨n, rfl⟩ : ∃ n, N = n + 1 := ⟨N - 1, (by first | decide | omega)⟩
    have hq := PQ_f h f g
    have he := EN_f hE f g
    obtain ⟨c1, c2, c3, c4, c5, c6⟩ := hC
    rw [f_Layout_setColumns_45, if_pos (by unfold r32; omega), if_neg (by first | decide | omega), if_pos hl]
    rcases C_addX hK hq hl he hX X0 ⟨(by first | decide | omega), c1.2.2⟩ rb with ⟨e, n1, n2⟩ | ⟨x, fl, dt, B1, e, x1, l4, fq, ⟨v1, v2⟩, bn, n1, n2, n3⟩
    · rw [e, zb_s, if_pos (by decide), if_pos rfl]
      exact ⟨F, B, X, rfl, f, g, h0, n1, ⟨c1, c2, c3, c4, c5, c6⟩, n2, fun _ _ _ => rfl⟩
    · rw [e, zb_s, if_pos (by decide), if_neg (by decide)]
      have f4 : (zup3 F 2 l 4 (F 2 l 4 + 1)) 2 l 4 = F 2 l 4 + 1 := by rw [zup3_v, if_pos ⟨rfl, rfl, rfl⟩]
      have fn : lyF l F (zup3 F 2 l 4 (F 2 l 4 + 1)) := lyF_w (by first | decide | omega)
      have gn : lyB l B B1 := fun c y k z nn => bn c y k z (by first | decide | omega)
      have e1 : ∀ z, ¬ z = F 2 l 4 → B1 2 l 1 z = B 2 l 1 z := fun z nz => bn 2 l 1 z (by first | decide | omega)
      have e2 : ∀ z, ¬ z = F 2 l 4 → B1 2 l 2 z = B 2 l 2 z := fun z nz => bn 2 l 2 z (by first | decide | omega)
      have nz' : NXs V p l b x (zup3 F 2 l 4 (F 2 l 4 + 1)) B1 := fun u u0 u1 => by
        have ff : (zup3 F 2 l 4 (F 2 l 4 + 1)) 4 (B1 6 p 0 u) 10 = F 4 (B1 6 p 0 u) 10 := fn 4 _ 10 (by first | decide | omega)
        rw [ff]
        exact n1 u u0 u1
      have hp : (fun t => B1 2 l 1 (s + t)) = fun t => if t = F 2 l 4 - s then x else B1 2 l 1 (s + t) := by
        funext t
        by_cases z : t = F 2 l 4 - s
        · rw [if_pos z, show s + t = F 2 l 4 by omega]; exact v1
        · rw [if_neg z]
      have hC' : CC1 V l w b s x (zup3 F 2 l 4 (F 2 l 4 + 1)) B1 Bm := by
        unfold CC1
        rw [f4]
        refine ⟨⟨c1.1, (by first | decide | omega), n2⟩, by rw [bn 2 l 5 b (by first | decide | omega)]; exact c2, fun t t0 t1 => ?_, fun y => ⟨fun hy => ?_, fun hy => ?_⟩, fun _ => by rw [show F 2 l 4 + 1 - 1 = F 2 l 4 by omega]; exact v1, fun j j0 j1 => ?_⟩
        · show B1 2 l 1 (s + t) < B1 2 l 1 (s + (t + 1))
          by_cases z : t + 1 = F 2 l 4 - s
          · have k := c5 (by first | decide | omega)
            rw [e1 (s + t) (by first | decide | omega), show s + (t + 1) = F 2 l 4 by omega, v1, show s + t = F 2 l 4 - 1 by omega, k]
            exact x1.1
          · rw [e1 (s + t) (by first | decide | omega), e1 (s + (t + 1)) (by first | decide | omega)]
            exact c3 t t0 (by first | decide | omega)
        · obtain ⟨t, t0, t1, te⟩ := hy
          rw [n3 y]
          by_cases z : s + t = F 2 l 4
          · exact Or.inr (by rw [← te]; show B1 2 l 1 (s + t) = x; rw [z]; exact v1)
          · exact Or.inl ((c4 y).mp ⟨t, t0, (by first | decide | omega), by rw [← te]; show B 2 l 1 (s + t) = B1 2 l 1 (s + t); rw [e1 (s + t) z]⟩)
        · rcases (n3 y).mp hy with hy | hy
          · obtain ⟨t, t0, t1, te⟩ := (c4 y).mpr hy
            exact ⟨t, t0, (by first | decide | omega), by rw [← te]; show B1 2 l 1 (s + t) = B 2 l 1 (s + t); exact e1 (s + t) (by first | decide | omega)⟩
          · exact ⟨F 2 l 4 - s, (by first | decide | omega), (by first | decide | omega), by rw [hy]; show B1 2 l 1 (s + (F 2 l 4 - s)) = x; rw [show s + (F 2 l 4 - s) = F 2 l 4 by omega]; exact v1⟩
        · by_cases z : j = F 2 l 4
          · rw [z, v1, v2]
            exact ⟨⟨(by first | decide | omega), x1.2⟩, fl, dt, fq, rfl⟩
          · rw [e1 j z, e2 j z]
            exact c6 j j0 (by first | decide | omega)
      obtain ⟨F', B', X', k1, k2, k3, k4, k5, k6, k7, k8⟩ := ih n (i + 1) x (zup3 F 2 l 4 (F 2 l 4 + 1)) B1 (by first | decide | omega) (by first | decide | omega) (by first | decide | omega) (lyF_t f fn) (lyB_t g gn) (by rw [zup3_v, if_neg (by first | decide | omega)]; exact h0) nz' (by first | decide | omega) hC' (by rw [f4]; omega)
      exact ⟨F', B', X', k1, k2, k3, k4, k5, k6, k7, fun k x nn => by rw [k8 k x nn, bn 2 l k x (by first | decide | omega)]⟩
/-- bar t's columns, class: from s to e -/
def CCe (V l w T t s e : Int) (B Bm : zB) : Prop := (0 ≤ s ∧ s ≤ e ∧ e ≤ 3200) ∧ SI (e - s) (fun i => B 2 l 1 (s + i)) ∧ RS (e - s) (fun i => B 2 l 1 (s + i)) (aNt V w t (800 * V) Bm) ∧ (∀ j, s ≤ j → j < e → (0 ≤ B 2 l 1 j ∧ B 2 l 1 j ≤ 1000000000000) ∧ WDx V w t (B 2 l 1 j) Bm (lw2 40 (((if j + 1 = e then T else B 2 l 1 (j + 1)) - B 2 l 1 j) / 6350400)) (B 2 l 2 j)) ∧ B 2 l 6 t = 6 + smR (fun j => B 2 l 2 j) s (e - s).toNat
theorem CCe_f {T t s e : Int} {B B' Bm : zB} (h : CCe V l w T t s e B Bm) (b : ∀ k j, k = 1 ∨ k = 2 → s ≤ j → j < e → B' 2 l k j = B 2 l k j) (b6 : B' 2 l 6 t = B 2 l 6 t) : CCe V l w T t s e B' Bm := by
  obtain ⟨h1, h2, h3, h4, h5⟩ := h
  refine ⟨h1, SI_c h2 (fun i i0 i1 => b 1 _ (by first | decide | omega) (by first | decide | omega) (by first | decide | omega)), RS_t h3 (fun i i0 i1 => b 1 _ (by first | decide | omega) (by first | decide | omega) (by first | decide | omega)), fun j j0 j1 => ?_, ?_⟩
  · have e1 : (if j + 1 = e then T else B' 2 l 1 (j + 1)) = if j + 1 = e then T else B 2 l 1 (j + 1) := by
      by_cases z : j + 1 = e
      · rw [if_pos z, if_pos z]
      · rw [if_neg z, if_neg z, b 1 (j + 1) (by first | decide | omega) (by first | decide | omega) (by first | decide | omega)]
    rw [e1, b 1 j (by first | decide | omega) j0 j1, b 2 j (by first | decide | omega) j0 j1]
    exact h4 j j0 j1
  · rw [b6, h5, smR_c (f := fun j => B 2 l 2 j) (f' := fun j => B' 2 l 2 j) _ s (fun j j0 j1 => b 2 j (by first | decide | omega) j0 (by first | decide | omega))]
/-- where bar t ends, while bar b is ahead and c columns stand -/
def eC (l b c t : Int) (B : zB) : Int := if t + 1 = b then c else B 2 l 5 (t + 1)
def CCb (V l w T b c : Int) (B Bm : zB) : Prop := (b = 0 → c = 0) ∧ (0 < b → B 2 l 5 0 = 0) ∧ ∀ t, 0 ≤ t → t < b → CCe V l w T t (B 2 l 5 t) (eC l b c t B) B Bm ∧ eC l b c t B ≤ c
theorem C_sc27X {nb T : Int} {F0 : zF} {B0 Bm : zB} (hK : 60000 ≤ K.1) (h : PQl K V p F0 B0) (hl : 0 ≤ l ∧ l < K.2 2) (hE : ENl V p w F0 B0 Bm) (hT : T = barV (F0 6 p 4) (F0 6 p 5)) (hpl : ∀ b x, aNt V w b (800 * V) Bm x → x < T) (hn : 0 ≤ nb ∧ nb ≤ 100) : ∀ (d N : Nat) (a : Int) (F : zF) (B : zB), a + d = nb → 0 ≤ a → d < N → lyF l F0 F → lyB l B0 B → F 2 l 0 = F0 2 l 0 → NXs V p l a (-1) F B → (0 ≤ F 2 l 4 ∧ F 2 l 4 ≤ nxS V l B) → CCb V l w T a (F 2 l 4) B Bm → ∃ F' B', f_Layout_setColumns_27 K N a l p nb F B = some (0, F', B') ∧ lyF l F0 F' ∧ lyB l B0 B' ∧ F' 2 l 0 = F0 2 l 0 ∧ (0 < nb → B' 2 l 5 0 = 0) ∧ ∀ t, 0 ≤ t → t < nb → CCe V l w T t (B' 2 l 5 t) (B' 2 l 5 (t + 1)) B' Bm := by
  have hV := h.2.1
  have bT := bar_v h.2.2.2.1 h.2.2.2.2.1
  rw [← hT] at bT
  intro d
  induction d with
  | zero =>
    intro N a F B ha a0 hN f g h0 hX hc hC
    obtain ⟨n, rfl⟩ : ∃ n, N = n + 1 := ⟨N - 1, (by first | decide | omega)⟩
    have ea : a = nb := by omega
    rw [f_Layout_setColumns_27, if_pos (by unfold r32; omega), if_pos (by unfold r32; omega), if_pos (by first | decide | omega), if_pos hl, if_pos (by first | decide | omega)]
    have un : ∀ k x, ¬ (k = 5 ∧ x = nb) → (zup4 B 2 l 5 nb (F 2 l 4)) 2 l k x = B 2 l k x := fun k x nn => by rw [zup4_v, if_neg (by first | decide | omega)]
    have us : (zup4 B 2 l 5 nb (F 2 l 4)) 2 l 5 nb = F 2 l 4 := up_s
    refine ⟨F, _, rfl, f, lyB_t g lyB_w, h0, fun z => by rw [un 5 0 (by first | decide | omega)]; exact hC.2.1 (by first | decide | omega), fun t t0 t1 => ?_⟩
    obtain ⟨k1, _⟩ := hC.2.2 t t0 (by first | decide | omega)
    have e1 : (zup4 B 2 l 5 nb (F 2 l 4)) 2 l 5 (t + 1) = eC l a (F 2 l 4) t B := by
      unfold eC
      by_cases z : t + 1 = a
      · rw [if_pos z, show t + 1 = nb by omega]; exact us
      · rw [if_neg z]; exact un 5 (t + 1) (by first | decide | omega)
    rw [e1, un 5 t (by first | decide | omega)]
    exact CCe_f k1 (fun k j _ _ _ => un k j (by first | decide | omega)) (un 6 t (by first | decide | omega))
  | succ d ih =>
    intro N a F B ha a0 hN f g h0 hX hc hC
    obtain ⟨n, rfl⟩ : ∃ n, N = n + 1 := ⟨N - 1, (by first | decide | omega)⟩
    have un : ∀ c y k x, ¬ (c = 2 ∧ y = l ∧ k = 5 ∧ x = a) → (zup4 B 2 l 5 a (F 2 l 4)) c y k x = B c y k x := fun c y k x nn => by rw [zup4_v, if_neg nn]
    have us : (zup4 B 2 l 5 a (F 2 l 4)) 2 l 5 a = F 2 l 4 := up_s
    generalize hBa : zup4 B 2 l 5 a (F 2 l 4) = Ba at un us
    have u4 : ∀ q k x, Ba 4 q k x = B 4 q k x := fun q k x => un 4 q k x (by first | decide | omega)
    have ga : lyB l B Ba := fun c y k x nn => un c y k x (by first | decide | omega)
    have nxa : nxS V l Ba = nxS V l B := by
      unfold nxS
      exact smR_c _ 0 (fun j _ _ => un 2 l 12 j (by first | decide | omega))
    have Xa : NXs V p l a (-1) F Ba := fun u u0 u1 => by
      rw [un 2 l 12 u (by first | decide | omega), un 6 p 0 u (by first | decide | omega)]
      simp only [u4]
      exact hX u u0 u1
    obtain ⟨F1, B1, X, e, g1, g2, g3, g4, g5, g6, g7⟩ := C_sc45X (V := V) (p := p) (w := w) (b := a) (nb := nb) (Bm := Bm) (rec := f_Layout_setColumns_27 K n) (s := F 2 l 4) hK h hl hE (by unfold r32; omega) 3200 K.1 0 (-1) F Ba (by omega) (by decide) (by omega) f (lyB_t g ga) h0 Xa (by decide) ⟨⟨hc.1, Int.le_refl _, by rw [nxa]; exact hc.2⟩, us, fun t t0 t1 => by omega, fun y => ⟨fun hy => by
      obtain ⟨t, t0, t1, _⟩ := hy
      omega, fun hy => by
      obtain ⟨⟨y0, _⟩, y1⟩ := hy
      omega⟩, fun z => (by first | decide | omega), fun j j0 j1 => (by first | decide | omega)⟩ (by first | decide | omega)
    obtain ⟨c1, c2, c3, c4, c5, c6⟩ := g5
    have hq := PQ_f h g1 g2
    have e64 : F1 6 p 4 = F0 6 p 4 ∧ F1 6 p 5 = F0 6 p 5 := ⟨g1 6 p 4 (by first | decide | omega), g1 6 p 5 (by first | decide | omega)⟩
    have hbl := C_bar (K := K) (p := p) (F := F1) (B := B1) hq.1 rfl rfl hq.2.2.2.1 hq.2.2.2.2.1
    rw [e64.1, e64.2, ← hT] at hbl
    have up : nxS V l B1 ≤ 800 * V := by
      have a1 := smR_le (f := fun u => B1 2 l 12 u) (g := fun _ => (800 : Int)) V.toNat 0 (fun j j0 j1 => by
        have := (hq.2.2.2.2.2.2 j j0 (by first | decide | omega)).2.1
        have := (g4 j j0 (by first | decide | omega)).1
        show B1 2 l 12 j ≤ 800
        omega)
      rw [smR_k] at a1
      unfold nxS
      omega
    have mem : ∀ j, F 2 l 4 ≤ j → j < F1 2 l 4 → aNt V w a (800 * V) Bm (B1 2 l 1 j) := fun j j0 j1 => by
      have := (c4 (B1 2 l 1 j)).mp ⟨j - F 2 l 4, (by first | decide | omega), (by first | decide | omega), by show B1 2 l 1 (F 2 l 4 + (j - F 2 l 4)) = B1 2 l 1 j; rw [show F 2 l 4 + (j - F 2 l 4) = j by omega]⟩
      exact this.1
    obtain ⟨B2, w1, w2, w3⟩ := C_wd3X (K := K) (l := l) (F := F1) (b := T) hK hl ⟨(by first | decide | omega), (by first | decide | omega)⟩ (F1 2 l 4 - F 2 l 4).toNat K.1 (F 2 l 4) B1 (by first | decide | omega) hc.1 (by first | decide | omega) (fun x x0 x1 => by
      obtain ⟨q1, _⟩ := c6 x x0 x1
      have q2 := hpl a _ (mem x x0 x1)
      by_cases z : x + 1 = F1 2 l 4
      · rw [if_pos z]
        omega
      · rw [if_neg z]
        have q3 := c3 (x - F 2 l 4) (by first | decide | omega) (by first | decide | omega)
        have q4 : B1 2 l 1 (F 2 l 4 + (x - F 2 l 4)) < B1 2 l 1 (F 2 l 4 + (x - F 2 l 4 + 1)) := q3
        rw [show F 2 l 4 + (x - F 2 l 4) = x by omega, show F 2 l 4 + (x - F 2 l 4 + 1) = x + 1 by omega] at q4
        obtain ⟨q5, _⟩ := c6 (x + 1) (by first | decide | omega) (by first | decide | omega)
        omega)
    have w1' : f_Layout_widen K l (F 2 l 4) T F1 B1 = some (0, F1, B2) := w1
    have e5 : (zup4 B2 2 l 6 a 6) 2 l 5 a = F 2 l 4 := by rw [up_o (by decide), w3 2 l 5 a (by first | decide | omega)]; exact c2
    obtain ⟨B4, x1, x2, x3⟩ := C_sc108X (K := K) (F := F1) (p := p) (a := a) (nb := nb) (rec := f_Layout_setColumns_27 K n) hl ⟨(by first | decide | omega), (by first | decide | omega)⟩ (by first | decide | omega) (F1 2 l 4 - F 2 l 4).toNat K.1 (F 2 l 4) (zup4 B2 2 l 6 a 6) (by first | decide | omega) hc.1 (by first | decide | omega)
    rw [f_Layout_setColumns_27, if_pos (by unfold r32; omega), if_pos (by unfold r32; omega), if_neg (by first | decide | omega), if_pos hl, if_pos (by first | decide | omega), hBa, e]
    unfold f_Layout_setColumns_78
    rw [if_pos hl, if_pos (by first | decide | omega), if_pos hq.1, hbl, zb_s, c2, w1', zb_s, if_pos (by first | decide | omega), e5, x1]
    -- what stands now
    have y4 : ∀ c y k x, ¬ (c = 2 ∧ y = l ∧ ((k = 2 ∧ F 2 l 4 ≤ x ∧ x < F1 2 l 4) ∨ (k = 6 ∧ x = a))) → B4 c y k x = B1 c y k x := fun c y k x nn => by rw [x3 c y k x (by first | decide | omega), zup4_v, if_neg (by first | decide | omega), w3 c y k x (by first | decide | omega)]
    have y44 : ∀ q k x, B4 4 q k x = B1 4 q k x := fun q k x => y4 4 q k x (by first | decide | omega)
    have y2 : ∀ x, F 2 l 4 ≤ x → x < F1 2 l 4 → B4 2 l 2 x = B2 2 l 2 x := fun x _ _ => by rw [x3 2 l 2 x (by first | decide | omega), up_o (by decide)]
    have y0 : ∀ k x, ¬ (k = 12 ∨ k = 5 ∨ ((k = 1 ∨ k = 2) ∧ F 2 l 4 ≤ x) ∨ (k = 6 ∧ x = a)) → B4 2 l k x = B 2 l k x := fun k x nn => by rw [y4 2 l k x (by first | decide | omega), g7 k x (by first | decide | omega), un 2 l k x (by first | decide | omega)]
    have y5 : ∀ x, ¬ x = a → B4 2 l 5 x = B 2 l 5 x := fun x nx => by rw [y4 2 l 5 x (by first | decide | omega), g7 5 x (by first | decide | omega), un 2 l 5 x (by first | decide | omega)]
    have y5a : B4 2 l 5 a = F 2 l 4 := by rw [y4 2 l 5 a (by first | decide | omega)]; exact c2
    have new : CCe V l w T a (F 2 l 4) (F1 2 l 4) B4 Bm := by
      refine ⟨⟨hc.1, c1.2.1, (by first | decide | omega)⟩, SI_c c3 (fun i _ _ => y4 2 l 1 _ (by first | decide | omega)), RS_t (RS_c c4 (fun y => ⟨fun z => z.1, fun z => ⟨z, g6 y z⟩⟩)) (fun i _ _ => y4 2 l 1 _ (by first | decide | omega)), fun j j0 j1 => ?_, ?_⟩
      · obtain ⟨q1, fl, dt, q2, q3⟩ := c6 j j0 j1
        rw [y4 2 l 1 j (by first | decide | omega), y4 2 l 1 (j + 1) (by first | decide | omega), y2 j j0 j1, w2 j j0 j1]
        exact ⟨q1, fl, dt, q2, by rw [q3]; omega⟩
      · rw [x2, up_s, smR_c (f := fun j => B4 2 l 2 j) (f' := fun x => (zup4 B2 2 l 6 a 6) 2 l 2 x) _ (F 2 l 4) (fun j j0 j1 => by
          show (zup4 B2 2 l 6 a 6) 2 l 2 j = B4 2 l 2 j
          rw [up_o (by decide), y2 j j0 (by first | decide | omega)])]
    have hC4 : CCb V l w T (a + 1) (F1 2 l 4) B4 Bm := by
      refine ⟨fun z => (by first | decide | omega), fun _ => ?_, fun t t0 t1 => ?_⟩
      · by_cases z : a = 0
        · have y50 : B4 2 l 5 0 = F 2 l 4 := by
            rw [z] at y5a
            exact y5a
          rw [y50]; exact hC.1 z
        · rw [y5 0 (by first | decide | omega)]; exact hC.2.1 (by first | decide | omega)
      · by_cases z : t = a
        · rw [z, y5a]
          unfold eC
          rw [if_pos rfl]
          exact ⟨new, Int.le_refl _⟩
        · obtain ⟨k1, k2⟩ := hC.2.2 t t0 (by first | decide | omega)
          have ee : eC l (a + 1) (F1 2 l 4) t B4 = eC l a (F 2 l 4) t B := by
            unfold eC
            rw [if_neg (by first | decide | omega)]
            by_cases z' : t + 1 = a
            · rw [if_pos z', z', y5a]
            · rw [if_neg z', y5 (t + 1) (by first | decide | omega)]
          rw [ee, y5 t z]
          exact ⟨CCe_f k1 (fun k j hk _ j1 => y0 k j (by first | decide | omega)) (y0 6 t (by first | decide | omega)), (by first | decide | omega)⟩
    exact ih n (a + 1) F1 B4 (by first | decide | omega) (by first | decide | omega) (by first | decide | omega) g1 (lyB_t g2 (fun c y k x nn => y4 c y k x (by first | decide | omega))) g3 (fun u u0 u1 => by
      rw [y4 2 l 12 u (by first | decide | omega), y4 6 p 0 u (by first | decide | omega)]
      simp only [y44]
      exact g4 u u0 u1) ⟨(by first | decide | omega), by
      have : nxS V l B4 = nxS V l B1 := by
        unfold nxS
        exact smR_c _ 0 (fun j _ _ => y4 2 l 12 j (by first | decide | omega))
      rw [this]
      exact c1.2.2⟩ hC4
theorem C_setX0 {nb T : Int} {F : zF} {B Bm : zB} (hK : 60000 ≤ K.1) (h : PQl K V p F B) (hl : 0 ≤ l ∧ l < K.2 2) (hE : ENl V p w F B Bm) (hT : T = barV (F 6 p 4) (F 6 p 5)) (hpl : ∀ b x, aNt V w b (800 * V) Bm x → x < T) (hn : 0 ≤ nb ∧ nb ≤ 100) : ∃ F' B', f_Layout_setColumns K l p nb F B = some (0, F', B') ∧ lyF l F F' ∧ lyB l B B' ∧ F' 2 l 0 = F 2 l 0 ∧ (0 < nb → B' 2 l 5 0 = 0) ∧ ∀ t, 0 ≤ t → t < nb → CCe V l w T t (B' 2 l 5 t) (B' 2 l 5 (t + 1)) B' Bm := by
  have hV := h.2.1
  have c7 : ∀ (d N : Nat) (i : Int) (C : zB), i + d = 4 → 0 ≤ i → d < N → lyB l B C → (∀ t, 0 ≤ t → t < i → C 2 l 12 t = 0) → ∃ C', f_Layout_setColumns_7 K N i l p nb (zup3 F 2 l 4 0) C = f_Layout_setColumns_27 K K.1 0 l p nb (zup3 F 2 l 4 0) C' ∧ lyB l B C' ∧ ∀ t, 0 ≤ t → t < 4 → C' 2 l 12 t = 0 := by
    intro d
    induction d with
    | zero =>
      intro N i C hi i0 hN g z
      obtain ⟨n, rfl⟩ : ∃ n, N = n + 1 := ⟨N - 1, (by first | decide | omega)⟩
      rw [f_Layout_setColumns_7, if_pos (by unfold r32; omega), if_pos (by first | decide | omega)]
      exact ⟨C, rfl, g, fun t t0 t1 => z t t0 (by first | decide | omega)⟩
    | succ d ih =>
      intro N i C hi i0 hN g z
      obtain ⟨n, rfl⟩ : ∃ n, N = n + 1 := ⟨N - 1, (by first | decide | omega)⟩
      rw [f_Layout_setColumns_7, if_pos (by unfold r32; omega), if_neg (by first | decide | omega), if_pos hl, if_pos (by first | decide | omega)]
      refine ih n (i + 1) (zup4 C 2 l 12 i 0) (by first | decide | omega) (by first | decide | omega) (by first | decide | omega) (lyB_t g lyB_w) (fun t t0 t1 => ?_)
      by_cases e : t = i
      · rw [e]; exact up_s
      · rw [up_j e]; exact z t t0 (by first | decide | omega)
  obtain ⟨B1, e, g1, g2⟩ := c7 4 K.1 0 B (by first | decide | omega) (by decide) (by first | decide | omega) lyB_r (fun t a c => (by first | decide | omega))
  have f1 : lyF l F (zup3 F 2 l 4 0) := lyF_w (by first | decide | omega)
  have f4 : (zup3 F 2 l 4 0) 2 l 4 = 0 := by rw [zup3_v, if_pos ⟨rfl, rfl, rfl⟩]
  have hq := PQ_f h f1 g1
  have he := EN_f hE f1 g1
  unfold f_Layout_setColumns
  rw [if_pos hl, e]
  have sz : 0 ≤ nxS V l B1 := by
    have a1 := smR_le (f := fun _ => (0 : Int)) (g := fun u => B1 2 l 12 u) V.toNat 0 (fun j j0 j1 => by
      show 0 ≤ B1 2 l 12 j
      rw [g2 j j0 (by first | decide | omega)]
      exact Int.le_refl _)
    rw [smR_k] at a1
    unfold nxS
    omega
  obtain ⟨F2, B2, k1, k2, k3, k4, k5, k6⟩ := C_sc27X (K := K) (V := V) (p := p) (l := l) (w := w) (T := T) (F0 := zup3 F 2 l 4 0) (B0 := B1) (Bm := Bm) hK hq hl he (by rw [f1 6 p 4 (by first | decide | omega), f1 6 p 5 (by first | decide | omega)]; exact hT) hpl hn nb.toNat K.1 0 (zup3 F 2 l 4 0) B1 (by first | decide | omega) (by decide) (by first | decide | omega) lyF_r lyB_r rfl (fun u u0 u1 => by
    obtain ⟨_, q2, q3⟩ := hq.2.2.2.2.2.2 u u0 u1
    rw [g2 u u0 (by first | decide | omega)]
    refine ⟨⟨by decide, q2.1⟩, fun i i0 i1 => (by first | decide | omega), fun c => ?_⟩
    obtain ⟨m1, m2, _⟩ := q3 0 (by decide) c
    by_cases z : B1 4 (B1 6 p 0 u) 361 0 = 0
    · exact Or.inr ⟨z, (by first | decide | omega)⟩
    · exact Or.inl (by first | decide | omega)) (by rw [f4]; exact ⟨by decide, sz⟩) ⟨fun _ => f4, fun z => absurd z (by decide), fun t t0 t1 => (by first | decide | omega)⟩
  exact ⟨F2, B2, k1, lyF_t f1 k2, lyB_t g1 k3, by rw [k4, zup3_v, if_neg (by first | decide | omega)], k5, k6⟩
/-- both sides' columns are the same -/
theorem CC_u {nb T : Int} {P : Int → Int} {B Bm : zB} (hX : CXb V w T nb P Bm Bm) (h0 : 0 < nb → B 2 l 5 0 = 0) (hC : ∀ t, 0 ≤ t → t < nb → CCe V l w T t (B 2 l 5 t) (B 2 l 5 (t + 1)) B Bm) : (0 < nb → ∀ n : Nat, (n : Int) ≤ nb → Bm 13 w 42 n = B 2 l 5 n) ∧ ∀ t, 0 ≤ t → t < nb → Bm 13 w 46 t = B 2 l 6 t ∧ ∀ j, B 2 l 5 t ≤ j → j < B 2 l 5 (t + 1) → (Bm 13 w 43 j = nu (B 2 l 1 j) ∧ Bm 13 w 44 j = de (B 2 l 1 j)) ∧ Bm 13 w 45 j = B 2 l 2 j := by
  -- one bar
  have one : ∀ t, 0 ≤ t → t < nb → Bm 13 w 42 t = B 2 l 5 t → Bm 13 w 42 (t + 1) = B 2 l 5 (t + 1) ∧ Bm 13 w 46 t = B 2 l 6 t ∧ ∀ j, B 2 l 5 t ≤ j → j < B 2 l 5 (t + 1) → (Bm 13 w 43 j = nu (B 2 l 1 j) ∧ Bm 13 w 44 j = de (B 2 l 1 j)) ∧ Bm 13 w 45 j = B 2 l 2 j := fun t t0 t1 es => by
    obtain ⟨⟨x1, x2, x3, x4, x5⟩, _⟩ := hX.2 t t0 t1
    obtain ⟨c1, c2, c3, c4, c5⟩ := hC t t0 t1
    rw [es] at x1 x2 x3 x4 x5
    obtain ⟨e1, e2⟩ := SR_e (by first | decide | omega) (by first | decide | omega) x2 c2 x3 c3
    have ee : Bm 13 w 42 (t + 1) = B 2 l 5 (t + 1) := by omega
    rw [ee] at x4 x5 e2
    have pe : ∀ j, B 2 l 5 t ≤ j → j < B 2 l 5 (t + 1) → P j = B 2 l 1 j := fun j j0 j1 => by
      have k := e2 (j - B 2 l 5 t) (by first | decide | omega) (by first | decide | omega)
      have k' : P (B 2 l 5 t + (j - B 2 l 5 t)) = B 2 l 1 (B 2 l 5 t + (j - B 2 l 5 t)) := k
      rw [show B 2 l 5 t + (j - B 2 l 5 t) = j by omega] at k'
      exact k'
    have we : ∀ j, B 2 l 5 t ≤ j → j < B 2 l 5 (t + 1) → (Bm 13 w 43 j = nu (B 2 l 1 j) ∧ Bm 13 w 44 j = de (B 2 l 1 j)) ∧ Bm 13 w 45 j = B 2 l 2 j := fun j j0 j1 => by
      obtain ⟨k1, k2, k3⟩ := x4 j j0 j1
      obtain ⟨m1, m2⟩ := c4 j j0 j1
      have e3 : (if j + 1 = B 2 l 5 (t + 1) then T else P (j + 1)) = if j + 1 = B 2 l 5 (t + 1) then T else B 2 l 1 (j + 1) := by
        by_cases z : j + 1 = B 2 l 5 (t + 1)
        · rw [if_pos z, if_pos z]
        · rw [if_neg z, if_neg z, pe (j + 1) (by first | decide | omega) (by first | decide | omega)]
      rw [e3, pe j j0 j1] at k3
      unfold CP at k1
      rw [pe j j0 j1] at k1
      exact ⟨k1, WDx_u k3 m2⟩
    refine ⟨ee, ?_, we⟩
    rw [x5, c5, smR_c (f := fun j => B 2 l 2 j) (f' := fun j => Bm 13 w 45 j) _ (B 2 l 5 t) (fun j j0 j1 => (we j j0 (by first | decide | omega)).2)]
  have all : 0 < nb → ∀ n : Nat, (n : Int) ≤ nb → Bm 13 w 42 n = B 2 l 5 n := fun nb0 n => by
    induction n with
    | zero =>
      intro _
      have a1 := hX.1 nb0
      have a2 := h0 nb0
      show Bm 13 w 42 0 = B 2 l 5 0
      rw [a1, a2]
    | succ n ih =>
      intro hn
      have := (one n (by first | decide | omega) (by first | decide | omega) (ih (by first | decide | omega))).1
      rw [show ((n + 1 : Nat) : Int) = (n : Int) + 1 by omega]
      exact this
  refine ⟨all, fun t t0 t1 => ?_⟩
  have e := all (by first | decide | omega) t.toNat (by first | decide | omega)
  rw [show ((t.toNat : Nat) : Int) = t by omega] at e
  exact (one t t0 t1 e).2
end
end
section
section
/-! ===== how the lines are chosen: purely, and both sides ===== -/
-- (33b3)
def lwX (W : Int → Int) (fi a : Int) (n : Nat) : Int := ldV fi a + smR W a n
def prV (wd x nb e : Int) : Int := if x ≤ wd then (if e = nb then 0 else (wd - x) * (wd - x)) else 4 * (x - wd) * (x - wd)
/-- the best of the first k ways to go on from bar a: what is left costs L -/
def dpS (W : Int → Int) (fi wd nb : Int) (L : Int → Int) (a : Int) : Nat → Int × Int
  | 0 => (1152921504606846976, 0)
  | k + 1 => if 1 ≤ k ∧ wd < lwX W fi a (k + 1) then dpS W fi wd nb L a k else if (dpS W fi wd nb L a k).2 = 0 ∨ prV wd (lwX W fi a (k + 1)) nb (a + (k + 1 : Nat)) + L (a + (k + 1 : Nat)) ≤ (dpS W fi wd nb L a k).1 then (prV wd (lwX W fi a (k + 1)) nb (a + (k + 1 : Nat)) + L (a + (k + 1 : Nat)), ((k + 1 : Nat) : Int)) else dpS W fi wd nb L a k
theorem smR_s {f : Int → Int} : ∀ (n : Nat) (a : Int), smR f a (n + 1) = smR f a n + f (a + n) := by
  intro n
  induction n with
  | zero =>
    intro a
    rw [smR, smR, smR, show a + ((0 : Nat) : Int) = a by omega]
    omega
  | succ n ih =>
    intro a
    rw [smR, ih (a + 1), smR, show a + 1 + (n : Int) = a + ((n + 1 : Nat) : Int) by omega]
    omega
theorem smR_b {f : Int → Int} {m : Int} : ∀ (n : Nat) (a : Int), (∀ j, 0 ≤ f j ∧ f j ≤ m) → 0 ≤ smR f a n ∧ smR f a n ≤ m * n := by
  intro n
  induction n with
  | zero => intro a _; rw [smR]; omega
  | succ n ih =>
    intro a h
    have h1 := h a
    have h2 := ih (a + 1) h
    rw [smR, show ((n + 1 : Nat) : Int) = (n : Int) + 1 by omega, Int.mul_add, Int.mul_one]
    omega
theorem lwX_s {W : Int → Int} {fi a : Int} {n : Nat} : lwX W fi a (n + 1) = lwX W fi a n + W (a + n) := by
  unfold lwX
  rw [smR_s]
  omega
theorem ldV_b {fi b : Int} (h : -7 ≤ fi ∧ fi ≤ 7) : 0 ≤ ldV fi b ∧ ldV fi b ≤ 100 := by
  unfold ldV zabs
  split <;> split <;> omega
theorem prV_b {wd x nb e : Int} (w0 : 0 ≤ wd ∧ wd ≤ 2000) (x0 : 0 ≤ x) (x1 : x ≤ 400100) : 0 ≤ prV wd x nb e ∧ prV wd x nb e ≤ 1000000000000 := by
  unfold prV
  by_cases c : x ≤ wd
  · have m1 : 0 ≤ (wd - x) * (wd - x) := Int.mul_nonneg (by first | decide | omega) (by first | decide | omega)
    have m2 : (wd - x) * (wd - x) ≤ 2000 * 2000 := Int.mul_le_mul (by first | decide | omega) (by first | decide | omega) (by first | decide | omega) (by first | decide | omega)
    rw [if_pos c]
    split <;> omega
  · have m1 : 0 ≤ 4 * (x - wd) * (x - wd) := Int.mul_nonneg (by first | decide | omega) (by first | decide | omega)
    have m2 : 4 * (x - wd) * (x - wd) ≤ 1600400 * 400100 := Int.mul_le_mul (by first | decide | omega) (by first | decide | omega) (by first | decide | omega) (by first | decide | omega)
    rw [if_neg c]
    omega
section
variable {W L : Int → Int} {fi wd nb a : Int}
theorem dpS_b (hW : ∀ t, 0 ≤ W t ∧ W t ≤ 400000) (hf : -7 ≤ fi ∧ fi ≤ 7) (hw : 0 ≤ wd ∧ wd ≤ 2000) (hL : ∀ i, a < i → i ≤ nb → 0 ≤ L i ∧ L i ≤ 1000000000000 * (nb - i)) : ∀ k : Nat, a + k ≤ nb → (k = 0 ∧ dpS W fi wd nb L a k = (1152921504606846976, 0)) ∨ (1 ≤ (dpS W fi wd nb L a k).2 ∧ (dpS W fi wd nb L a k).2 ≤ k ∧ 0 ≤ (dpS W fi wd nb L a k).1 ∧ (dpS W fi wd nb L a k).1 ≤ 1000000000000 * (nb - a) ∧ (dpS W fi wd nb L a k).1 = prV wd (lwX W fi a (dpS W fi wd nb L a k).2.toNat) nb (a + (dpS W fi wd nb L a k).2) + L (a + (dpS W fi wd nb L a k).2) ∧ ((dpS W fi wd nb L a k).2 = 1 ∨ lwX W fi a (dpS W fi wd nb L a k).2.toNat ≤ wd)) := by
  intro k
  induction k with
  | zero => intro _; exact Or.inl ⟨rfl, rfl⟩
  | succ k ih =>
    intro hk
    have i1 := ih (by first | decide | omega)
    rw [dpS]
    by_cases c : 1 ≤ k ∧ wd < lwX W fi a (k + 1)
    · rw [if_pos c]
      rcases i1 with ⟨z, _⟩ | ⟨q1, q2, q3⟩
      · omega
      · exact Or.inr ⟨q1, (by first | decide | omega), q3⟩
    · rw [if_neg c]
      by_cases c2 : (dpS W fi wd nb L a k).2 = 0 ∨ prV wd (lwX W fi a (k + 1)) nb (a + (k + 1 : Nat)) + L (a + (k + 1 : Nat)) ≤ (dpS W fi wd nb L a k).1
      · rw [if_pos c2]
        have l1 := hL (a + (k + 1 : Nat)) (by first | decide | omega) hk
        have ld := ldV_b (b := a) hf
        have sb := smR_b (f := W) (m := 400000) (k + 1) a hW
        have xb : 0 ≤ lwX W fi a (k + 1) ∧ lwX W fi a (k + 1) ≤ 400100 := by
          by_cases z : k = 0
          · subst z
            unfold lwX at *
            omega
          · unfold lwX at *
            omega
        have pb := prV_b (nb := nb) (e := a + (k + 1 : Nat)) hw xb.1 xb.2
        refine Or.inr ⟨by show (1 : Int) ≤ ((k + 1 : Nat) : Int); omega, Int.le_refl _, ?_, ?_, ?_, ?_⟩
        · show 0 ≤ prV wd (lwX W fi a (k + 1)) nb (a + (k + 1 : Nat)) + L (a + (k + 1 : Nat))
          omega
        · show prV wd (lwX W fi a (k + 1)) nb (a + (k + 1 : Nat)) + L (a + (k + 1 : Nat)) ≤ 1000000000000 * (nb - a)
          omega
        · show prV wd (lwX W fi a (k + 1)) nb (a + (k + 1 : Nat)) + L (a + (k + 1 : Nat)) = prV wd (lwX W fi a ((k + 1 : Nat) : Int).toNat) nb (a + ((k + 1 : Nat) : Int)) + L (a + ((k + 1 : Nat) : Int))
          rw [show ((k + 1 : Nat) : Int).toNat = k + 1 by omega]
        · show ((k + 1 : Nat) : Int) = 1 ∨ lwX W fi a ((k + 1 : Nat) : Int).toNat ≤ wd
          rw [show ((k + 1 : Nat) : Int).toNat = k + 1 by omega]
          omega
      · rw [if_neg c2]
        rcases i1 with ⟨z, e⟩ | ⟨q1, q2, q3⟩
        · exfalso
          apply c2
          rw [e]
          exact Or.inl rfl
        · exact Or.inr ⟨q1, (by first | decide | omega), q3⟩
theorem dpS_c {L' : Int → Int} : ∀ k : Nat, (∀ t, a < t → t ≤ a + k → L t = L' t) → dpS W fi wd nb L a k = dpS W fi wd nb L' a k := by
  intro k
  induction k with
  | zero => intro _; rfl
  | succ k ih =>
    intro h
    have e := h (a + (k + 1 : Nat)) (by first | decide | omega) (by first | decide | omega)
    rw [dpS, dpS, ih (fun t t0 t1 => h t t0 (by first | decide | omega)), e]
/-- the least prices and the longest first lines, from bar b on -/
def DPp (W : Int → Int) (fi wd nb : Int) (L M : Int → Int) (b : Int) : Prop := L nb = 0 ∧ ∀ i, b ≤ i → i < nb → L i = (dpS W fi wd nb L i (nb - i).toNat).1 ∧ M i = (dpS W fi wd nb L i (nb - i).toNat).2
theorem DPp_u {L' M M' : Int → Int} (h : DPp W fi wd nb L M 0) (h' : DPp W fi wd nb L' M' 0) : ∀ (d : Nat) (i : Int), 0 ≤ i → i + d = nb → L i = L' i ∧ (i < nb → M i = M' i) := by
  intro d
  induction d using Nat.strongRecOn with
  | ind d ih =>
    intro i i0 hd
    by_cases z : i = nb
    · rw [z, h.1, h'.1]
      exact ⟨rfl, fun k => (by first | decide | omega)⟩
    · obtain ⟨a1, a2⟩ := h.2 i i0 (by first | decide | omega)
      obtain ⟨b1, b2⟩ := h'.2 i i0 (by first | decide | omega)
      have e : dpS W fi wd nb L i (nb - i).toNat = dpS W fi wd nb L' i (nb - i).toNat := dpS_c _ (fun t t0 t1 => (ih (nb - t).toNat (by first | decide | omega) t (by first | decide | omega) (by first | decide | omega)).1)
      rw [e] at a1 a2
      exact ⟨by rw [a1, b1], fun _ => by rw [a2, b2]⟩
theorem DPp_b {M : Int → Int} (hW : ∀ t, 0 ≤ W t ∧ W t ≤ 400000) (hf : -7 ≤ fi ∧ fi ≤ 7) (hw : 0 ≤ wd ∧ wd ≤ 2000) {b : Int} (h : DPp W fi wd nb L M b) : ∀ (d : Nat) (i : Int), b ≤ i → i + d = nb → (0 ≤ L i ∧ L i ≤ 1000000000000 * (nb - i)) ∧ (i < nb → (1 ≤ M i ∧ M i ≤ nb - i) ∧ L i = prV wd (lwX W fi i (M i).toNat) nb (i + M i) + L (i + M i) ∧ (M i = 1 ∨ lwX W fi i (M i).toNat ≤ wd)) := by
  intro d
  induction d using Nat.strongRecOn with
  | ind d ih =>
    intro i i0 hd
    by_cases z : i = nb
    · rw [z, h.1]
      exact ⟨(by first | decide | omega), fun k => (by first | decide | omega)⟩
    · obtain ⟨a1, a2⟩ := h.2 i i0 (by first | decide | omega)
      have hb := dpS_b (W := W) (L := L) (nb := nb) (a := i) hW hf hw (fun t t0 t1 => (ih (nb - t).toNat (by first | decide | omega) t (by first | decide | omega) (by first | decide | omega)).1) (nb - i).toNat (by first | decide | omega)
      rcases hb with ⟨q, _⟩ | ⟨q1, q2, q3, q4, q5, q6⟩
      · omega
      · rw [← a2] at q1 q2 q5 q6
        rw [← a1] at q3 q4 q5
        exact ⟨⟨q3, q4⟩, fun _ => ⟨⟨q1, (by first | decide | omega)⟩, q5, q6⟩⟩
end
-- class
section
variable {K : zK} {V p l : Int}
theorem C_leadX {F : zF} {B : zB} {a : Int} (h : PQl K V p F B) (ha : r32 a) : f_Layout_lead K p a F B = some (ldV (F 6 p 2) a, F, B) := by
  obtain ⟨hp, _, h2, _⟩ := h
  unfold f_Layout_lead f_Layout_lead_22 ldV
  rw [if_pos hp, if_pos (by unfold r32; omega), if_pos ha]
  by_cases c : a = 0
  · rw [if_pos c, if_pos c]
  · rw [if_neg c, if_neg c]
theorem C_priceX {F : zF} {B : zB} {a b nb e : Int} (ha : 0 ≤ a ∧ a ≤ 2000) (hb : 0 ≤ b ∧ b ≤ 100000000) : f_Layout_price K a b (if e = nb then 1 else 0) F B = some (prV a b nb e, F, B) := by
  unfold f_Layout_price f_Layout_price_34 prV
  rw [if_pos (by unfold r64; omega), if_pos (by unfold r64; omega)]
  by_cases c : b ≤ a
  · rw [if_pos (zcmp_m.mpr c), if_pos c]
    by_cases c' : e = nb
    · rw [if_pos c', if_pos c', if_pos (by decide), if_neg (by decide)]
    · rw [if_neg c', if_neg c', if_pos (by decide), if_pos rfl]
  · rw [if_neg (fun z => c (zcmp_m.mp z)), if_neg c]
theorem C_ch41X {F : zF} {nb a wd fi : Int} {W L : Int → Int} {rec : Int → Int → Int → Int → Int → zF → zB → zO} (hl : 0 ≤ l ∧ l < K.2 2) (hn : 0 ≤ nb ∧ nb ≤ 100) (ha : 0 ≤ a ∧ a < nb) (hw : 0 ≤ wd ∧ wd ≤ 2000) (hW : ∀ t, 0 ≤ W t ∧ W t ≤ 400000) (hf : -7 ≤ fi ∧ fi ≤ 7) (hL : ∀ i, a < i → i ≤ nb → 0 ≤ L i ∧ L i ≤ 1000000000000 * (nb - i)) : ∀ (d N k : Nat) (B : zB), a + k + d = nb → d < N → (∀ t, 0 ≤ t → t < nb → B 2 l 6 t = W t) → (∀ i, a < i → i ≤ nb → B 2 l 10 i = L i) → B 2 l 10 a = (dpS W fi wd nb L a k).1 → (1 ≤ k → B 2 l 11 a = a + (dpS W fi wd nb L a k).2) → ∃ B', f_Layout_choose_41 rec K N (a + k + 1) (lwX W fi a k) a l p nb wd F B = f_Layout_choose_145 rec K a l p nb wd F B' ∧ (∀ c y k x, ¬ (c = 2 ∧ y = l ∧ (k = 10 ∨ k = 11) ∧ x = a) → B' c y k x = B c y k x) ∧ B' 2 l 10 a = (dpS W fi wd nb L a (k + d)).1 ∧ (1 ≤ k + d → B' 2 l 11 a = a + (dpS W fi wd nb L a (k + d)).2) := by
  intro d
  induction d with
  | zero =>
    intro N k B hk hN h6 h10 e10 e11
    obtain ⟨n, rfl⟩ : ∃ n, N = n + 1 := ⟨N - 1, (by first | decide | omega)⟩
    rw [f_Layout_choose_41, if_pos (by unfold r32; omega), if_pos (by unfold r32; omega), if_pos (by first | decide | omega)]
    exact ⟨B, rfl, fun _ _ _ _ _ => rfl, e10, e11⟩
  | succ d ih =>
    intro N k B hk hN h6 h10 e10 e11
    obtain ⟨n, rfl⟩ : ∃ n, N = n + 1 := ⟨N - 1, (by first | decide | omega)⟩
    have ld := ldV_b (b := a) hf
    have sb := smR_b (f := W) (m := 400000) (k + 1) a hW
    have lws : lwX W fi a k + B 2 l 6 (a + k + 1 - 1) = lwX W fi a (k + 1) := by
      rw [show a + (k : Int) + 1 - 1 = a + k by omega, h6 (a + k) (by first | decide | omega) (by first | decide | omega), lwX_s]
    have xb : 0 ≤ lwX W fi a (k + 1) ∧ lwX W fi a (k + 1) ≤ 50000000 := by
      unfold lwX
      omega
    rw [f_Layout_choose_41, if_pos (by unfold r32; omega), if_pos (by unfold r32; omega), if_neg (by first | decide | omega), if_pos hl, if_pos (by first | decide | omega), lws, if_pos (by unfold r32; omega), if_pos (by unfold r32; omega)]
    have db := dpS_b (W := W) (L := L) (nb := nb) (a := a) hW hf hw hL k (by first | decide | omega)
    have ek : a + (k : Int) + 1 = a + ((k + 1 : Nat) : Int) := by omega
    -- this way is tried
    have o79 : ¬ (1 ≤ k ∧ wd < lwX W fi a (k + 1)) → ∃ B', f_Layout_choose_79 rec (f_Layout_choose_41 rec K n) K (lwX W fi a (k + 1)) (a + k + 1) a l p nb wd F B = f_Layout_choose_145 rec K a l p nb wd F B' ∧ (∀ c y k x, ¬ (c = 2 ∧ y = l ∧ (k = 10 ∨ k = 11) ∧ x = a) → B' c y k x = B c y k x) ∧ B' 2 l 10 a = (dpS W fi wd nb L a (k + (d + 1))).1 ∧ (1 ≤ k + (d + 1) → B' 2 l 11 a = a + (dpS W fi wd nb L a (k + (d + 1))).2) := fun nc => by
      have o95 : ∃ B', f_Layout_choose_95 rec (f_Layout_choose_41 rec K n) K (lwX W fi a (k + 1)) (a + k + 1) a l p nb wd wd (lwX W fi a (k + 1)) (if a + (k : Int) + 1 = nb then 1 else 0) F B = f_Layout_choose_145 rec K a l p nb wd F B' ∧ (∀ c y k x, ¬ (c = 2 ∧ y = l ∧ (k = 10 ∨ k = 11) ∧ x = a) → B' c y k x = B c y k x) ∧ B' 2 l 10 a = (dpS W fi wd nb L a (k + (d + 1))).1 ∧ (1 ≤ k + (d + 1) → B' 2 l 11 a = a + (dpS W fi wd nb L a (k + (d + 1))).2) := by
        unfold f_Layout_choose_95
        have l1 := hL (a + (k : Int) + 1) (by first | decide | omega) (by first | decide | omega)
        have xs : lwX W fi a (k + 1) ≤ 400100 := by
          by_cases z : k = 0
          · subst z
            unfold lwX at *
            omega
          · omega
        have pb := prV_b (nb := nb) (e := a + (k : Int) + 1) hw xb.1 xs
        have a10 : -1 < B 2 l 10 a ∧ B 2 l 10 a ≤ 1152921504606846976 := by
          rw [e10]
          rcases db with ⟨_, q⟩ | ⟨_, _, q3, q4, _⟩
          · rw [q]; exact ⟨by decide, by decide⟩
          · omega
        rw [C_priceX hw ⟨xb.1, (by first | decide | omega)⟩, zb_s, if_pos hl, if_pos (by first | decide | omega), if_pos (by first | decide | omega), h10 (a + k + 1) (by first | decide | omega) (by first | decide | omega), if_pos (by unfold r64; omega), if_pos (by unfold r64; omega)]
        have dk : dpS W fi wd nb L a (k + 1) = if (dpS W fi wd nb L a k).2 = 0 ∨ prV wd (lwX W fi a (k + 1)) nb (a + (k + 1 : Nat)) + L (a + (k + 1 : Nat)) ≤ (dpS W fi wd nb L a k).1 then (prV wd (lwX W fi a (k + 1)) nb (a + (k + 1 : Nat)) + L (a + (k + 1 : Nat)), ((k + 1 : Nat) : Int)) else dpS W fi wd nb L a k := by
          rw [dpS, if_neg nc]
        rw [← ek] at dk
        have nx : ∀ B1 : zB, (∀ c y k x, ¬ (c = 2 ∧ y = l ∧ (k = 10 ∨ k = 11) ∧ x = a) → B1 c y k x = B c y k x) → B1 2 l 10 a = (dpS W fi wd nb L a (k + 1)).1 → B1 2 l 11 a = a + (dpS W fi wd nb L a (k + 1)).2 → ∃ B', f_Layout_choose_139 rec (f_Layout_choose_41 rec K n) K (lwX W fi a (k + 1)) (a + k + 1) a l p nb wd F B1 = f_Layout_choose_145 rec K a l p nb wd F B' ∧ (∀ c y k x, ¬ (c = 2 ∧ y = l ∧ (k = 10 ∨ k = 11) ∧ x = a) → B' c y k x = B c y k x) ∧ B' 2 l 10 a = (dpS W fi wd nb L a (k + (d + 1))).1 ∧ (1 ≤ k + (d + 1) → B' 2 l 11 a = a + (dpS W fi wd nb L a (k + (d + 1))).2) := fun B1 f1 g1 g2 => by
          obtain ⟨B', q1, q2, q3, q4⟩ := ih n (k + 1) B1 (by first | decide | omega) (by first | decide | omega) (fun t t0 t1 => by rw [f1 2 l 6 t (by first | decide | omega)]; exact h6 t t0 t1) (fun i i0 i1 => by rw [f1 2 l 10 i (by first | decide | omega)]; exact h10 i i0 i1) g1 (fun _ => g2)
          rw [f_Layout_choose_139]
          rw [show a + ((k + 1 : Nat) : Int) + 1 = a + (k : Int) + 1 + 1 by omega] at q1
          rw [show k + 1 + d = k + (d + 1) by omega] at q3 q4
          exact ⟨B', q1, fun c y k x nn => by rw [q2 c y k x nn, f1 c y k x nn], q3, q4⟩
        by_cases c1 : prV wd (lwX W fi a (k + 1)) nb (a + (k : Int) + 1) + L (a + (k : Int) + 1) ≤ B 2 l 10 a
        · have cz : (dpS W fi wd nb L a k).2 = 0 ∨ prV wd (lwX W fi a (k + 1)) nb (a + (k : Int) + 1) + L (a + (k : Int) + 1) ≤ (dpS W fi wd nb L a k).1 := Or.inr (by rw [← e10]; exact c1)
          rw [if_pos cz] at dk
          rw [if_neg (show ¬ 0 < zcmp _ _ from fun z => by have := zcmp_m.mpr c1; omega)]
          refine nx _ (fun c y k x nn => by rw [zup4_v, if_neg (by first | decide | omega), zup4_v, if_neg (by first | decide | omega)]) ?_ ?_
          · rw [up_o (by decide), up_s, dk]
          · rw [up_s, dk]
            show a + (k : Int) + 1 = a + ((k + 1 : Nat) : Int)
            exact ek
        · rw [if_pos (show 0 < zcmp _ _ by
            by_cases z : 0 < zcmp (prV wd (lwX W fi a (k + 1)) nb (a + (k : Int) + 1) + L (a + (k : Int) + 1)) (B 2 l 10 a)
            · exact z
            · exact absurd (zcmp_m.mp (by first | decide | omega)) c1)]
          rcases db with ⟨_, q⟩ | ⟨q1, q2, q3, q4, q5⟩
          · exfalso
            rw [e10, q] at c1
            apply c1
            show _ ≤ (1152921504606846976 : Int)
            omega
          · have cz : ¬ ((dpS W fi wd nb L a k).2 = 0 ∨ prV wd (lwX W fi a (k + 1)) nb (a + (k : Int) + 1) + L (a + (k : Int) + 1) ≤ (dpS W fi wd nb L a k).1) := by
              rw [← e10]
              omega
            rw [if_neg cz] at dk
            exact nx B (fun _ _ _ _ _ => rfl) (by rw [dk]; exact e10) (by rw [dk]; exact e11 (by first | decide | omega))
      unfold f_Layout_choose_79
      rw [if_pos (by unfold r32; omega), if_pos (by unfold r32; omega), if_pos (by unfold r32; omega), if_pos (by unfold r32; omega)]
      by_cases c1 : a + (k : Int) + 1 = nb
      · rw [if_pos c1] at o95 ⊢; exact o95
      · rw [if_neg c1] at o95 ⊢; exact o95
    by_cases c1 : lwX W fi a (k + 1) ≤ wd
    · rw [if_pos c1]; exact o79 (by first | decide | omega)
    · rw [if_neg c1, if_pos (by unfold r32; omega)]
      by_cases c2 : a + (k : Int) + 1 ≤ a + 1
      · rw [if_pos c2]; exact o79 (by first | decide | omega)
      · rw [if_neg c2]
        -- and all that are longer are too wide
        have st : ∀ j : Nat, dpS W fi wd nb L a (k + j) = dpS W fi wd nb L a k := by
          intro j
          induction j with
          | zero => rfl
          | succ j ihj =>
            have wide : wd < lwX W fi a (k + j + 1) := by
              have e : ∀ m : Nat, lwX W fi a (k + 1) ≤ lwX W fi a (k + 1 + m) := by
                intro m
                induction m with
                | zero => exact Int.le_refl _
                | succ m ihm =>
                  have := hW (a + ((k + 1 + m : Nat) : Int))
                  rw [show k + 1 + (m + 1) = (k + 1 + m) + 1 by omega, lwX_s (n := k + 1 + m)]
                  omega
              have := e j
              rw [show k + 1 + j = k + j + 1 by omega] at this
              omega
            rw [show k + (j + 1) = (k + j) + 1 by omega, dpS, if_pos ⟨(by first | decide | omega), wide⟩]
            exact ihj
        rw [st (d + 1)]
        exact ⟨B, rfl, fun _ _ _ _ _ => rfl, e10, fun _ => e11 (by first | decide | omega)⟩
theorem C_ch12X {F : zF} {nb wd : Int} {W : Int → Int} (hK : 60000 ≤ K.1) (hl : 0 ≤ l ∧ l < K.2 2) (hn : 0 ≤ nb ∧ nb ≤ 100) (hw : 0 ≤ wd ∧ wd ≤ 2000) (hW : ∀ t, 0 ≤ W t ∧ W t ≤ 400000) : ∀ (d N : Nat) (a : Int) (B : zB), a + 1 = d → a < nb → d < N → PQl K V p F B → (∀ t, 0 ≤ t → t < nb → B 2 l 6 t = W t) → DPp W (F 6 p 2) wd nb (fun i => B 2 l 10 i) (fun i => B 2 l 11 i - i) (a + 1) → ∃ B', f_Layout_choose_12 K N a l p nb wd F B = some (0, F, B') ∧ (∀ c y k x, ¬ (c = 2 ∧ y = l ∧ (k = 10 ∨ k = 11)) → B' c y k x = B c y k x) ∧ DPp W (F 6 p 2) wd nb (fun i => B' 2 l 10 i) (fun i => B' 2 l 11 i - i) 0 := by
  intro d
  induction d with
  | zero =>
    intro N a B ha a1 hN h h6 hD
    obtain ⟨n, rfl⟩ : ∃ n, N = n + 1 := ⟨N - 1, (by first | decide | omega)⟩
    rw [f_Layout_choose_12, if_pos (by unfold r32; omega), if_pos (by first | decide | omega)]
    rw [show a + 1 = 0 by omega] at hD
    exact ⟨B, rfl, fun _ _ _ _ _ => rfl, hD⟩
  | succ d ih =>
    intro N a B ha a1 hN h h6 hD
    obtain ⟨n, rfl⟩ : ∃ n, N = n + 1 := ⟨N - 1, (by first | decide | omega)⟩
    have hf := h.2.2.1
    rw [f_Layout_choose_12, if_pos (by unfold r32; omega), if_neg (by first | decide | omega), C_leadX h (by unfold r32; omega), zb_s, if_pos hl, if_pos (by first | decide | omega)]
    have un : ∀ c y k x, ¬ (c = 2 ∧ y = l ∧ k = 10 ∧ x = a) → (zup4 B 2 l 10 a 1152921504606846976) c y k x = B c y k x := fun c y k x nn => by rw [zup4_v, if_neg nn]
    obtain ⟨B1, g1, g2, g3, g4⟩ := C_ch41X (K := K) (l := l) (p := p) (F := F) (nb := nb) (a := a) (wd := wd) (fi := F 6 p 2) (W := W) (L := fun i => B 2 l 10 i) (rec := f_Layout_choose_12 K n) hl hn (by first | decide | omega) hw hW hf (fun i i0 i1 => (DPp_b hW hf hw hD (nb - i).toNat i (by first | decide | omega) (by first | decide | omega)).1) (nb - a).toNat K.1 0 (zup4 B 2 l 10 a 1152921504606846976) (by first | decide | omega) (by first | decide | omega) (fun t t0 t1 => by rw [un 2 l 6 t (by first | decide | omega)]; exact h6 t t0 t1) (fun i i0 i1 => un 2 l 10 i (by first | decide | omega)) (by rw [up_s, dpS]) (fun z => (by first | decide | omega))
    rw [show a + ((0 : Nat) : Int) + 1 = a + 1 by omega, show lwX W (F 6 p 2) a 0 = ldV (F 6 p 2) a by unfold lwX; rw [smR]; omega] at g1
    rw [Nat.zero_add] at g3 g4
    rw [g1, f_Layout_choose_145]
    have fr : ∀ c y k x, ¬ (c = 2 ∧ y = l ∧ (k = 10 ∨ k = 11) ∧ x = a) → B1 c y k x = B c y k x := fun c y k x nn => by rw [g2 c y k x nn, un c y k x (by first | decide | omega)]
    have e10 : ∀ i, ¬ i = a → B1 2 l 10 i = B 2 l 10 i := fun i ni => fr 2 l 10 i (by first | decide | omega)
    have dc : ∀ i, a ≤ i → i < nb → dpS W (F 6 p 2) wd nb (fun i => B1 2 l 10 i) i (nb - i).toNat = dpS W (F 6 p 2) wd nb (fun i => B 2 l 10 i) i (nb - i).toNat := fun i i0 i1 => dpS_c _ (fun t t0 t1 => e10 t (by first | decide | omega))
    have hD1 : DPp W (F 6 p 2) wd nb (fun i => B1 2 l 10 i) (fun i => B1 2 l 11 i - i) (a - 1 + 1) := by
      refine ⟨by show B1 2 l 10 nb = 0; rw [e10 nb (by first | decide | omega)]; exact hD.1, fun i i0 i1 => ?_⟩
      rw [dc i (by first | decide | omega) i1]
      by_cases z : i = a
      · rw [z]
        refine ⟨g3, ?_⟩
        show B1 2 l 11 a - a = _
        rw [g4 (by first | decide | omega)]
        omega
      · obtain ⟨k1, k2⟩ := hD.2 i (by first | decide | omega) i1
        refine ⟨by show B1 2 l 10 i = _; rw [e10 i z]; exact k1, ?_⟩
        show B1 2 l 11 i - i = _
        rw [fr 2 l 11 i (by first | decide | omega)]
        exact k2
    obtain ⟨B2, k1, k2, k3⟩ := ih n (a - 1) B1 (by first | decide | omega) (by first | decide | omega) (by first | decide | omega) (PQ_f (l := l) h lyF_r (fun c y k x nn => fr c y k x (by first | decide | omega))) (fun t t0 t1 => by rw [fr 2 l 6 t (by first | decide | omega)]; exact h6 t t0 t1) hD1
    exact ⟨B2, k1, fun c y k x nn => by rw [k2 c y k x nn, fr c y k x (by first | decide | omega)], k3⟩
end
-- reference
section
variable {K : Nat} {w : Int}
theorem L_ahdX {F : zF} {B : zB} {a : Int} (w0 : 0 ≤ w ∧ w < 3) (h2 : -7 ≤ F 13 w 2 ∧ F 13 w 2 ≤ 7) (ha : r32 a) : f_M_ahead K w a F B = some (ldV (F 13 w 2) a, F, B) := by
  unfold f_M_ahead f_M_ahead_22 f_M_ahead_34 ldV zabs
  rw [if_pos w0, if_pos (by unfold r32; omega)]
  by_cases c : 0 ≤ F 13 w 2
  · rw [if_pos c, if_pos c, if_pos ha]
    by_cases c' : a = 0
    · rw [if_pos c', if_pos c']
    · rw [if_neg c', if_neg c']
  · rw [if_neg c, if_neg c, if_pos ha]
    by_cases c' : a = 0
    · rw [if_pos c', if_pos c']
    · rw [if_neg c', if_neg c']
theorem L_lwX {F : zF} {B : zB} {a : Int} {n : Nat} {W : Int → Int} (hK : 200 ≤ K) (w0 : 0 ≤ w ∧ w < 3) (h2 : -7 ≤ F 13 w 2 ∧ F 13 w 2 ≤ 7) (h46 : ∀ t, 0 ≤ t → t < a + n → B 13 w 46 t = W t) (ha : 0 ≤ a) (hab : a + n ≤ 100) : f_M_lineWide K w a n F B = some (lwX W (F 13 w 2) a n, F, B) := by
  have go : ∀ (d N : Nat) (j v : Int), j + d = a + n → 0 ≤ j → d < N → f_M_lineWide_9 K N j v w a n F B = some (v + smR W j d, F, B) := by
    intro d
    induction d with
    | zero =>
      intro N j v hj j0 hN
      obtain ⟨N, rfl⟩ : ∃ m, N = m + 1 := ⟨N - 1, (by first | decide | omega)⟩
      rw [f_M_lineWide_9, if_pos (by unfold r32; omega), if_pos (by unfold r32; omega), if_pos (by first | decide | omega), smR, Int.add_zero]
    | succ d ih =>
      intro N j v hj j0 hN
      obtain ⟨N, rfl⟩ : ∃ m, N = m + 1 := ⟨N - 1, (by first | decide | omega)⟩
      rw [f_M_lineWide_9, if_pos (by unfold r32; omega), if_pos (by unfold r32; omega), if_neg (by first | decide | omega), if_pos w0, if_pos (by first | decide | omega), ih N (j + 1) _ (by first | decide | omega) (by first | decide | omega) (by first | decide | omega), h46 j j0 (by first | decide | omega), smR, Int.add_assoc]
  unfold f_M_lineWide
  rw [L_ahdX w0 h2 (by unfold r32; omega), zb_s, go n K a _ rfl ha (by first | decide | omega)]
  rfl
theorem L_prcX {F : zF} {B : zB} {a wd : Int} {n : Nat} {W : Int → Int} (hK : 200 ≤ K) (w0 : 0 ≤ w ∧ w < 3) (h2 : -7 ≤ F 13 w 2 ∧ F 13 w 2 ≤ 7) (h7 : 0 ≤ F 13 w 7 ∧ F 13 w 7 ≤ 100) (h46 : ∀ t, 0 ≤ t → t < a + n → B 13 w 46 t = W t) (hW : ∀ t, 0 ≤ W t ∧ W t ≤ 400000) (ha : 0 ≤ a) (hab : a + n ≤ 100) (hw : 0 ≤ wd ∧ wd ≤ 2000) : f_M_price K w a n wd F B = some (if ¬ n ≤ 1 ∧ wd < lwX W (F 13 w 2) a n then -1 else prV wd (lwX W (F 13 w 2) a n) (F 13 w 7) (a + n), F, B) := by
  have ld := ldV_b (b := a) h2
  have sb := smR_b (f := W) (m := 400000) n a hW
  have xb : 0 ≤ lwX W (F 13 w 2) a n ∧ lwX W (F 13 w 2) a n ≤ 50000000 := by
    unfold lwX
    omega
  unfold f_M_price f_M_price_43 f_M_price_69
  rw [L_lwX hK w0 h2 h46 ha hab, zb_s, if_pos (by unfold r32; omega), if_pos (by unfold r32; omega), if_pos (by unfold r64; omega), if_pos (by unfold r64; omega)]
  generalize lwX W (F 13 w 2) a n = x at *
  unfold prV
  by_cases c : x ≤ wd
  · rw [if_pos (zcmp_m.mpr c), if_pos w0, if_pos (by unfold r32; omega), if_pos (by unfold r32; omega), if_neg (show ¬ (¬ n ≤ 1 ∧ wd < x) by omega), if_pos c]
    by_cases c' : a + (n : Int) = F 13 w 7
    · rw [if_pos c', if_pos c']
    · rw [if_neg c', if_neg c']
  · rw [if_neg (fun z => c (zcmp_m.mp z)), if_pos (by unfold r32; omega)]
    by_cases c' : (n : Int) ≤ 1
    · rw [if_pos c', if_neg (show ¬ (¬ n ≤ 1 ∧ wd < x) by omega), if_neg c]
    · rw [if_neg c', if_pos (show ¬ n ≤ 1 ∧ wd < x by omega)]
theorem L_l60X {F : zF} {nb wd a : Int} {W L : Int → Int} {rec : Int → Int → Int → zF → zB → zO} (hK : 200 ≤ K) (w0 : 0 ≤ w ∧ w < 3) (h2 : -7 ≤ F 13 w 2 ∧ F 13 w 2 ≤ 7) (h7 : F 13 w 7 = nb) (n0 : 0 ≤ nb ∧ nb ≤ 100) (ha : 0 ≤ a ∧ a < nb) (hw : 0 ≤ wd ∧ wd ≤ 2000) (hW : ∀ t, 0 ≤ W t ∧ W t ≤ 400000) (hL : ∀ i, a < i → i ≤ nb → 0 ≤ L i ∧ L i ≤ 1000000000000 * (nb - i)) : ∀ (d N k : Nat) (B : zB), a + k + d = nb → d < N → (∀ t, 0 ≤ t → t < nb → B 13 w 46 t = W t) → (∀ i, a < i → i ≤ nb → B 14 0 59 i = L i) → B 14 0 60 a = (dpS W (F 13 w 2) wd nb L a k).2 → (1 ≤ k → B 14 0 59 a = (dpS W (F 13 w 2) wd nb L a k).1) → ∃ B', f_M_lines_60 rec K N (k + 1) a w wd F B = rec (a - 1) w wd F B' ∧ (∀ c y k x, ¬ (c = 14 ∧ y = 0 ∧ (k = 59 ∨ k = 60) ∧ x = a) → B' c y k x = B c y k x) ∧ B' 14 0 60 a = (dpS W (F 13 w 2) wd nb L a (k + d)).2 ∧ (1 ≤ k + d → B' 14 0 59 a = (dpS W (F 13 w 2) wd nb L a (k + d)).1) := by
  intro d
  induction d with
  | zero =>
    intro N k B hk hN h46 h59 e60 e59
    obtain ⟨n, rfl⟩ : ∃ n, N = n + 1 := ⟨N - 1, (by first | decide | omega)⟩
    rw [f_M_lines_60, if_pos w0, if_pos (by unfold r32; omega), h7, if_pos (by unfold r32; omega), if_pos (by first | decide | omega)]
    exact ⟨B, rfl, fun _ _ _ _ _ => rfl, e60, e59⟩
  | succ d ih =>
    intro N k B hk hN h46 h59 e60 e59
    obtain ⟨n, rfl⟩ : ∃ n, N = n + 1 := ⟨N - 1, (by first | decide | omega)⟩
    have db := dpS_b (W := W) (L := L) (nb := nb) (a := a) hW h2 hw hL k (by first | decide | omega)
    have ek : (k : Int) + 1 = ((k + 1 : Nat) : Int) := by omega
    have pE := L_prcX (K := K) (F := F) (B := B) (a := a) (n := k + 1) (W := W) hK w0 h2 (by first | decide | omega) (fun t t0 t1 => h46 t t0 (by first | decide | omega)) hW ha.1 (by first | decide | omega) hw
    rw [← ek, h7] at pE
    have dk := dpS.eq_2 W (F 13 w 2) wd nb L a k
    have l1 := hL (a + ((k : Int) + 1)) (by first | decide | omega) (by first | decide | omega)
    have ld := ldV_b (b := a) h2
    have sb := smR_b (f := W) (m := 400000) (k + 1) a hW
    have b60 : 0 ≤ B 14 0 60 a ∧ B 14 0 60 a ≤ 100 := by
      rw [e60]
      rcases db with ⟨_, q⟩ | ⟨q1, q2, _⟩
      · rw [q]; exact ⟨by decide, by decide⟩
      · omega
    rw [f_M_lines_60, if_pos w0, if_pos (by unfold r32; omega), h7, if_pos (by unfold r32; omega), if_neg (by first | decide | omega), pE, zb_s]
    have nx : ∀ B1 : zB, (∀ c y k x, ¬ (c = 14 ∧ y = 0 ∧ (k = 59 ∨ k = 60) ∧ x = a) → B1 c y k x = B c y k x) → B1 14 0 60 a = (dpS W (F 13 w 2) wd nb L a (k + 1)).2 → B1 14 0 59 a = (dpS W (F 13 w 2) wd nb L a (k + 1)).1 → ∃ B', f_M_lines_152 rec (f_M_lines_60 rec K n) K (k + 1) a w wd F B1 = rec (a - 1) w wd F B' ∧ (∀ c y k x, ¬ (c = 14 ∧ y = 0 ∧ (k = 59 ∨ k = 60) ∧ x = a) → B' c y k x = B c y k x) ∧ B' 14 0 60 a = (dpS W (F 13 w 2) wd nb L a (k + (d + 1))).2 ∧ (1 ≤ k + (d + 1) → B' 14 0 59 a = (dpS W (F 13 w 2) wd nb L a (k + (d + 1))).1) := fun B1 f1 g1 g2 => by
      obtain ⟨B', q1, q2, q3, q4⟩ := ih n (k + 1) B1 (by first | decide | omega) (by first | decide | omega) (fun t t0 t1 => by rw [f1 13 w 46 t (by first | decide | omega)]; exact h46 t t0 t1) (fun i i0 i1 => by rw [f1 14 0 59 i (by first | decide | omega)]; exact h59 i i0 i1) g1 (fun _ => g2)
      rw [f_M_lines_152]
      rw [← ek] at q1
      rw [show k + 1 + d = k + (d + 1) by omega] at q3 q4
      exact ⟨B', q1, fun c y k x nn => by rw [q2 c y k x nn, f1 c y k x nn], q3, q4⟩
    by_cases c : 1 ≤ k ∧ wd < lwX W (F 13 w 2) a (k + 1)
    · rw [if_pos (show ¬ k + 1 ≤ 1 ∧ wd < lwX W (F 13 w 2) a (k + 1) by omega), if_pos (by decide), if_neg (by decide)]
      rw [if_pos c] at dk
      exact nx B (fun _ _ _ _ _ => rfl) (by rw [dk]; exact e60) (by rw [dk]; exact e59 c.1)
    · have xs : 0 ≤ lwX W (F 13 w 2) a (k + 1) ∧ lwX W (F 13 w 2) a (k + 1) ≤ 400100 := by
        by_cases z : k = 0
        · subst z
          unfold lwX at *
          omega
        · have : 0 ≤ lwX W (F 13 w 2) a (k + 1) := by unfold lwX; omega
          omega
      have pb := prV_b (nb := nb) (e := a + ((k : Int) + 1)) hw xs.1 xs.2
      rw [if_neg (show ¬ (¬ k + 1 ≤ 1 ∧ wd < lwX W (F 13 w 2) a (k + 1)) by omega), if_pos (by unfold r64; omega)]
      rw [if_neg c, ← ek] at dk
      generalize hpr : prV wd (lwX W (F 13 w 2) a (k + 1)) nb (a + ((k : Int) + 1)) = pr at *
      have z0 : 0 ≤ zcmp pr 0 := by
        by_cases z : 0 ≤ zcmp pr 0
        · exact z
        · have := zcmp_lt.mp (show zcmp pr 0 < 0 by omega)
          omega
      have e59' := h59 (a + ((k : Int) + 1)) (by first | decide | omega) (by first | decide | omega)
      have take : (dpS W (F 13 w 2) wd nb L a (k + 1) = (pr + L (a + ((k : Int) + 1)), (k : Int) + 1)) → ∃ B', f_M_lines_134 rec (f_M_lines_60 rec K n) K (pr + L (a + ((k : Int) + 1))) (k + 1) a w wd F B = rec (a - 1) w wd F B' ∧ (∀ c y k x, ¬ (c = 14 ∧ y = 0 ∧ (k = 59 ∨ k = 60) ∧ x = a) → B' c y k x = B c y k x) ∧ B' 14 0 60 a = (dpS W (F 13 w 2) wd nb L a (k + (d + 1))).2 ∧ (1 ≤ k + (d + 1) → B' 14 0 59 a = (dpS W (F 13 w 2) wd nb L a (k + (d + 1))).1) := fun dk' => by
        unfold f_M_lines_134
        rw [if_pos (by first | decide | omega)]
        refine nx _ (fun c y k x nn => by rw [zup4_v, if_neg (by first | decide | omega), zup4_v, if_neg (by first | decide | omega)]) ?_ ?_
        · rw [zup4_v, if_pos ⟨rfl, rfl, rfl, rfl⟩, dk']
        · rw [zup4_v, if_neg (by first | decide | omega), zup4_v, if_pos ⟨rfl, rfl, rfl, rfl⟩, dk']
      rw [if_pos z0, if_pos (by first | decide | omega), if_pos (by first | decide | omega), if_pos (show r32 (B 14 0 60 a) by unfold r32; omega), e59']
      by_cases c2 : B 14 0 60 a ≤ 0
      · rw [if_pos c2]
        refine take ?_
        rw [dk, if_pos (Or.inl (by rw [← e60]; omega))]
      · have k1 : 1 ≤ k := by
          rcases db with ⟨_, q⟩ | ⟨q1, q2, _⟩
          · rw [e60, q] at c2
            exact absurd (Int.le_refl 0) c2
          · omega
        have v59 : 0 ≤ B 14 0 59 a ∧ B 14 0 59 a ≤ 1000000000000000 := by
          rw [e59 k1]
          rcases db with ⟨q, _⟩ | ⟨_, _, q3, q4, _⟩
          · omega
          · omega
        rw [if_neg c2, if_pos (by unfold r64; omega), if_pos (by unfold r64; omega)]
        by_cases c3 : pr + L (a + ((k : Int) + 1)) ≤ B 14 0 59 a
        · rw [if_pos (zcmp_m.mpr c3)]
          refine take ?_
          rw [dk, if_pos (Or.inr (by rw [← e59 k1]; exact c3))]
        · rw [if_neg (fun z => c3 (zcmp_m.mp z))]
          have dk' : dpS W (F 13 w 2) wd nb L a (k + 1) = dpS W (F 13 w 2) wd nb L a k := by
            rw [dk, if_neg (by rw [← e59 k1, ← e60]; omega)]
          exact nx B (fun _ _ _ _ _ => rfl) (by rw [dk']; exact e60) (by rw [dk']; exact e59 k1)
theorem L_l44X {F : zF} {nb wd : Int} {W : Int → Int} (hK : 200 ≤ K) (w0 : 0 ≤ w ∧ w < 3) (h2 : -7 ≤ F 13 w 2 ∧ F 13 w 2 ≤ 7) (h7 : F 13 w 7 = nb) (n0 : 0 ≤ nb ∧ nb ≤ 100) (hw : 0 ≤ wd ∧ wd ≤ 2000) (hW : ∀ t, 0 ≤ W t ∧ W t ≤ 400000) : ∀ (d N : Nat) (a : Int) (B : zB), a + 1 = d → a < nb → d < N → (∀ t, 0 ≤ t → t < nb → B 13 w 46 t = W t) → DPp W (F 13 w 2) wd nb (fun i => B 14 0 59 i) (fun i => B 14 0 60 i) (a + 1) → ∃ B', f_M_lines_44 K N a w wd F B = f_M_lines_177 K K 0 w wd (zup3 (zup3 F 13 w 48 0) 13 w 47 wd) B' ∧ lcB B B' ∧ DPp W (F 13 w 2) wd nb (fun i => B' 14 0 59 i) (fun i => B' 14 0 60 i) 0 := by
  intro d
  induction d with
  | zero =>
    intro N a B ha a1 hN h46 hD
    obtain ⟨n, rfl⟩ : ∃ n, N = n + 1 := ⟨N - 1, (by first | decide | omega)⟩
    rw [f_M_lines_44, if_pos (by unfold r32; omega), if_pos (by first | decide | omega), if_pos w0]
    rw [show a + 1 = 0 by omega] at hD
    exact ⟨B, rfl, fun _ _ _ _ _ => rfl, hD⟩
  | succ d ih =>
    intro N a B ha a1 hN h46 hD
    obtain ⟨n, rfl⟩ : ∃ n, N = n + 1 := ⟨N - 1, (by first | decide | omega)⟩
    rw [f_M_lines_44, if_pos (by unfold r32; omega), if_neg (by first | decide | omega), if_pos (by first | decide | omega)]
    have un : ∀ c y k x, ¬ (c = 14 ∧ y = 0 ∧ k = 60 ∧ x = a) → (zup4 B 14 0 60 a 0) c y k x = B c y k x := fun c y k x nn => by rw [zup4_v, if_neg nn]
    obtain ⟨B1, g1, g2, g3, g4⟩ := L_l60X (K := K) (w := w) (F := F) (nb := nb) (wd := wd) (a := a) (W := W) (L := fun i => B 14 0 59 i) (rec := f_M_lines_44 K n) hK w0 h2 h7 n0 (by first | decide | omega) hw hW (fun i i0 i1 => (DPp_b hW h2 hw hD (nb - i).toNat i (by first | decide | omega) (by first | decide | omega)).1) (nb - a).toNat K 0 (zup4 B 14 0 60 a 0) (by first | decide | omega) (by first | decide | omega) (fun t t0 t1 => by rw [un 13 w 46 t (by first | decide | omega)]; exact h46 t t0 t1) (fun i i0 i1 => un 14 0 59 i (by first | decide | omega)) (by rw [zup4_v, if_pos ⟨rfl, rfl, rfl, rfl⟩, dpS]) (fun z => (by first | decide | omega))
    rw [show ((0 : Nat) : Int) + 1 = 1 by omega] at g1
    rw [Nat.zero_add] at g3 g4
    rw [g1]
    have fr : ∀ c y k x, ¬ (c = 14 ∧ y = 0 ∧ (k = 59 ∨ k = 60) ∧ x = a) → B1 c y k x = B c y k x := fun c y k x nn => by rw [g2 c y k x nn, un c y k x (by first | decide | omega)]
    have dc : ∀ i, a ≤ i → i < nb → dpS W (F 13 w 2) wd nb (fun i => B1 14 0 59 i) i (nb - i).toNat = dpS W (F 13 w 2) wd nb (fun i => B 14 0 59 i) i (nb - i).toNat := fun i i0 i1 => dpS_c _ (fun t t0 t1 => fr 14 0 59 t (by first | decide | omega))
    have hD1 : DPp W (F 13 w 2) wd nb (fun i => B1 14 0 59 i) (fun i => B1 14 0 60 i) (a - 1 + 1) := by
      refine ⟨by show B1 14 0 59 nb = 0; rw [fr 14 0 59 nb (by first | decide | omega)]; exact hD.1, fun i i0 i1 => ?_⟩
      rw [dc i (by first | decide | omega) i1]
      by_cases z : i = a
      · rw [z]
        exact ⟨g4 (by first | decide | omega), g3⟩
      · obtain ⟨k1, k2⟩ := hD.2 i (by first | decide | omega) i1
        exact ⟨by show B1 14 0 59 i = _; rw [fr 14 0 59 i (by first | decide | omega)]; exact k1, by show B1 14 0 60 i = _; rw [fr 14 0 60 i (by first | decide | omega)]; exact k2⟩
    obtain ⟨B2, k1, k2, k3⟩ := ih n (a - 1) B1 (by first | decide | omega) (by first | decide | omega) (by first | decide | omega) (fun t t0 t1 => by rw [fr 13 w 46 t (by first | decide | omega)]; exact h46 t t0 t1) hD1
    exact ⟨B2, k1, fun c y k x nn => by rw [k2 c y k x nn, fr c y k x (by first | decide | omega)], k3⟩
end
end
end
