section
/-! ===== play: the reference's side ===== -/
theorem zland32 (x : Int) : zland x 4294967295 = x % 4294967296 := by
  have h : (lI x &&& lI 4294967295).toBitVec = BitVec.ofInt 64 x &&& 4294967295#64 := rfl
  have hn : (BitVec.ofInt 64 x &&& 4294967295#64).toNat = (x % 4294967296).toNat := by
    rw [BitVec.toNat_and, BitVec.toNat_ofInt]
    show (x % (2 ^ 64 : Nat)).toNat &&& 4294967295 = _
    rw [show (x % (2 ^ 64 : Nat)).toNat &&& 4294967295 = (x % (2 ^ 64 : Nat)).toNat % 4294967296 from Nat.and_two_pow_sub_one_eq_mod _ 32]
    omega
  show (lI x &&& lI 4294967295).toBitVec.toInt = x % 4294967296
  rw [h, BitVec.toInt_eq_toNat_of_lt (by rw [hn]; omega), hn]
  omega
theorem zl24 (a : Int) : 0 ≤ zlshr (zland a 4294967295) 24 ∧ zlshr (zland a 4294967295) 24 ≤ 255 := by
  rw [zland32]
  have k := zls8 (w := a % 4294967296) (by first | decide | omega) (by first | decide | omega) 3 (by decide)
  rw [show (8 * ((3 : Nat) : Int)) = 24 from rfl] at k
  rw [k, show (256 : Int) ^ 3 = 16777216 from rfl]
  omega
section
variable {K : Nat} {F : zF} {B : zB}
theorem L_wave {a b : Int} (ha : 0 ≤ a ∧ a ≤ 3) (hb : 0 ≤ b ∧ b ≤ 255) : ∃ r, f_M_wave K a b F B = some (r, F, B) ∧ -128 ≤ r ∧ r ≤ 128 := by
  have key : ∀ s : Int, -128 ≤ s ∧ s ≤ 128 → ∃ r, f_M_wave_24 K a b s F B = some (r, F, B) ∧ -128 ≤ r ∧ r ≤ 128 := fun s hs => by
    unfold f_M_wave_24 f_M_wave_43 f_M_wave_76
    rw [if_pos (by unfold r32; omega)]
    by_cases c0 : a = 0
    · rw [if_pos c0, if_pos (by unfold r32; omega)]
      by_cases c : 128 ≤ b
      · rw [if_pos c]; exact ⟨_, rfl, (by first | decide | omega), (by first | decide | omega)⟩
      · rw [if_neg c]; exact ⟨_, rfl, (by first | decide | omega), (by first | decide | omega)⟩
    · rw [if_neg c0]
      by_cases c1 : a = 1
      · rw [if_pos c1]; exact ⟨_, rfl, (by first | decide | omega), (by first | decide | omega)⟩
      · rw [if_neg c1]
        by_cases c2 : a = 2
        · rw [if_pos c2]; exact ⟨_, rfl, hs⟩
        · have w := wv3e hs
          rw [if_neg c2, if_pos (by unfold r32; omega)]
          by_cases c3 : 0 ≤ s
          · rw [show zabs s = s by unfold zabs; rw [if_pos c3]] at w
            rw [if_pos c3]; exact ⟨_, rfl, w⟩
          · rw [show zabs s = -s by unfold zabs; rw [if_neg c3]] at w
            rw [if_neg c3]; exact ⟨_, rfl, w⟩
  unfold f_M_wave
  rw [if_pos (by unfold r32; omega)]
  by_cases c : 128 ≤ b
  · rw [if_pos c]; exact key _ (by first | decide | omega)
  · rw [if_neg c]; exact key _ (by first | decide | omega)
theorem L_rise {x : Int} (hx : 0 ≤ x ∧ x ≤ 200000000) : ∃ r, f_M_rise K x F B = some (r, F, B) ∧ 0 ≤ r ∧ r ≤ 256 := by
  unfold f_M_rise f_M_rise_41
  rw [if_pos (by unfold r32; omega)]
  by_cases c : 40 ≤ x
  · rw [if_pos c, zdv_e (by first | decide | omega) (by unfold r32; omega) (by decide) (by decide), if_pos (by unfold r32; omega)]
    by_cases c' : 128 ≤ 256 - (x - 40) / 16
    · rw [if_pos c']; exact ⟨_, rfl, (by first | decide | omega), (by first | decide | omega)⟩
    · rw [if_neg c']; exact ⟨_, rfl, (by first | decide | omega), (by first | decide | omega)⟩
  · rw [if_neg c, zdv_e (by first | decide | omega) (by unfold r32; omega) (by decide) (by decide)]
    exact ⟨_, rfl, (by first | decide | omega), (by first | decide | omega)⟩
theorem L_lev {a b : Int} (ha : 0 ≤ a ∧ a ≤ 200000000) (hb : 0 ≤ b ∧ b ≤ 200000000) (hab : a < b + 400) : ∃ r, f_M_level K a b F B = some (r, F, B) ∧ 0 ≤ r ∧ r ≤ 256 := by
  obtain ⟨r, e, r0, r1⟩ := L_rise (K := K) (F := F) (B := B) hb
  obtain ⟨r', e', r0', r1'⟩ := L_rise (K := K) (F := F) (B := B) ha
  unfold f_M_level f_M_level_34
  rw [if_pos (by unfold r32; omega), if_pos (by unfold r32; omega)]
  by_cases c : b ≤ a
  · have m1 : r * (400 - (a - b)) ≤ 256 * (400 - (a - b)) := Int.mul_le_mul_of_nonneg_right r1 (by first | decide | omega)
    have m2 : 0 ≤ r * (400 - (a - b)) := Int.mul_nonneg r0 (by first | decide | omega)
    rw [if_pos c]
    by_cases c0 : b = 0
    · rw [if_pos c0]; exact ⟨_, rfl, (by first | decide | omega), (by first | decide | omega)⟩
    · rw [if_neg c0, e, zb_s, zdv_e m2 (by unfold r32; omega) (by decide) (by decide)]
      exact ⟨_, rfl, (by first | decide | omega), (by first | decide | omega)⟩
  · rw [if_neg c, e', zb_s]; exact ⟨_, rfl, r0', r1'⟩
theorem L_turn {a : Int} (ha : 0 ≤ a ∧ a ≤ 127) : ∃ r, f_M_turn K a F B = some (r, F, B) := by
  have h : zR (f_M_turnOf K (zrm a 12) F B) F B := by
    unfold f_M_turnOf f_M_turnOf_108
    exact zR_g (zrm_R _ _) (zR_i (fun _ => zR_s) (fun _ => zR_i (fun _ => zR_s) (fun _ => zR_i (fun _ => zR_s) (fun _ => zR_i (fun _ => zR_s) (fun _ => zR_i (fun _ => zR_s) (fun _ => zR_i (fun _ => zR_s) (fun _ => zR_i (fun _ => zR_s) (fun _ => zR_i (fun _ => zR_s) (fun _ => zR_i (fun _ => zR_s) (fun _ => zR_i (fun _ => zR_s) (fun _ => zR_i (fun _ => zR_s) (fun _ => zR_s))))))))))))
  unfold f_M_turn f_M_turn_42
  exact zR_b h (fun _ => zR_g (zdv_R _ _) (zR_i (fun _ => zR_s) (fun _ => zR_s)))
theorem L_held {v lo hi : Int} (rv : r32 v) (r0 : r32 lo) (r1 : r32 hi) (h : lo ≤ hi) : ∃ r, f_M_held K v lo hi F B = some (r, F, B) ∧ lo ≤ r ∧ r ≤ hi := by
  unfold f_M_held f_M_held_19
  rw [if_pos rv, if_pos r0]
  by_cases c : lo ≤ v
  · rw [if_pos c, if_pos r1]
    by_cases c' : v ≤ hi
    · rw [if_pos c']; exact ⟨_, rfl, c, c'⟩
    · rw [if_neg c']; exact ⟨_, rfl, h, Int.le_refl _⟩
  · rw [if_neg c]; exact ⟨_, rfl, Int.le_refl _, h⟩
/-- a piece's sounds, as mixing wants them -/
def MXh (w c : Int) (F : zF) (B : zB) : Prop := (0 ≤ w ∧ w < 3) ∧ (F 13 w 54 = c ∧ 0 ≤ c ∧ c ≤ 2000) ∧ (20 ≤ F 13 w 6 ∧ F 13 w 6 ≤ 300) ∧ ∀ j, 0 ≤ j → j < c → (0 ≤ B 13 w 55 j ∧ B 13 w 55 j < B 13 w 56 j ∧ B 13 w 56 j ≤ 500000) ∧ (0 ≤ B 13 w 57 j ∧ B 13 w 57 j ≤ 127) ∧ (0 ≤ B 13 w 58 j ∧ B 13 w 58 j ≤ 127) ∧ (0 ≤ B 13 w 59 j ∧ B 13 w 59 j < 4) ∧ (0 ≤ B 13 w 9 (B 13 w 59 j) ∧ B 13 w 9 (B 13 w 59 j) ≤ 3)
theorem L_mix5 {w c t : Int} (h : MXh w c F B) (ht : 0 ≤ t ∧ t ≤ 2000000) : ∀ (d N : Nat) (i v : Int), i + d = c → 0 ≤ i → d < N → (-(5000 * i) ≤ v ∧ v ≤ 5000 * i) → ∃ r, f_M_mixed_5 K N i v w t F B = some (r, F, B) ∧ -32768 ≤ r ∧ r ≤ 32767 := by
  obtain ⟨w0, ⟨hc, c0, c1⟩, h6, hj⟩ := h
  intro d
  induction d with
  | zero =>
    intro N i v hi i0 hN hv
    obtain ⟨p, rfl⟩ : ∃ p, N = p + 1 := ⟨N - 1, (by first | decide | omega)⟩
    obtain ⟨r, e, r0, r1⟩ := L_held (K := K) (F := F) (B := B) (v := v) (lo := -32768) (hi := 32767) (by unfold r32; omega) (by decide) (by decide) (by decide)
    rw [f_M_mixed_5, if_pos w0, if_pos (by unfold r32; omega), hc, if_pos (by unfold r32; omega), if_pos (by first | decide | omega), e, zb_s]
    exact ⟨r, rfl, r0, r1⟩
  | succ d ih =>
    intro N i v hi i0 hN hv
    obtain ⟨p, rfl⟩ : ∃ p, N = p + 1 := ⟨N - 1, (by first | decide | omega)⟩
    obtain ⟨a1, a2, a3, a4, a5⟩ := hj i i0 (by first | decide | omega)
    have nxt : ∀ v', (-(5000 * (i + 1)) ≤ v' ∧ v' ≤ 5000 * (i + 1)) → ∃ r, f_M_mixed_149 (f_M_mixed_5 K p) K i v' w t F B = some (r, F, B) ∧ -32768 ≤ r ∧ r ≤ 32767 := fun v' hv' => ih p (i + 1) v' (by first | decide | omega) (by first | decide | omega) (by first | decide | omega) hv'
    have zS : zldv (B 13 w 55 i * 5000) (F 13 w 6) = B 13 w 55 i * 5000 / F 13 w 6 := zldv_e (by first | decide | omega) (by first | decide | omega) (by first | decide | omega) (by first | decide | omega)
    have zE : zldv (B 13 w 56 i * 5000) (F 13 w 6) = B 13 w 56 i * 5000 / F 13 w 6 := zldv_e (by first | decide | omega) (by first | decide | omega) (by first | decide | omega) (by first | decide | omega)
    have S0 : 0 ≤ B 13 w 55 i * 5000 / F 13 w 6 := Int.ediv_nonneg (by first | decide | omega) (by first | decide | omega)
    have SE : B 13 w 55 i * 5000 / F 13 w 6 ≤ B 13 w 56 i * 5000 / F 13 w 6 := Int.ediv_le_ediv (by first | decide | omega) (by first | decide | omega)
    have E1 : B 13 w 56 i * 5000 / F 13 w 6 ≤ 125000000 := Int.ediv_le_of_le_mul (by first | decide | omega) (by first | decide | omega)
    rw [f_M_mixed_5, zS, zE]
    generalize B 13 w 55 i * 5000 / F 13 w 6 = S at S0 SE ⊢
    generalize B 13 w 56 i * 5000 / F 13 w 6 = E at SE E1 ⊢
    rw [if_pos w0, if_pos (by unfold r32; omega), hc, if_pos (by unfold r32; omega), if_neg (by first | decide | omega), if_pos (by first | decide | omega), if_pos (by unfold r32; omega), if_pos (by unfold r32; omega), if_pos (lI_n0 (by first | decide | omega) (by unfold r64; omega)), if_pos (by unfold r32; omega), if_pos (by unfold r32; omega), if_pos (by unfold r32; omega), if_pos (by unfold r32; omega)]
    by_cases q1 : t < S
    · rw [if_pos q1]; exact nxt v (by first | decide | omega)
    rw [if_neg q1, if_pos (by unfold r32; omega)]
    by_cases q2 : t ≤ E + 399
    · obtain ⟨r, e⟩ := L_turn (K := K) (F := F) (B := B) a2
      obtain ⟨r1, e1, r1a, r1b⟩ := L_wave (K := K) (F := F) (B := B) a5 (zl24 ((t - S) * r))
      obtain ⟨r2, e2, r2a, r2b⟩ := L_lev (K := K) (F := F) (B := B) (a := t - S) (b := E - S) (by first | decide | omega) (by first | decide | omega) (by first | decide | omega)
      have m := mul3 ⟨r1a, r1b⟩ ⟨r2a, r2b⟩ a3
      have z := zdvB (a := r1 * r2 * B 13 w 58 i) (b := 1024) (y := 4064) (by unfold r32; omega) (by decide) (by decide) m
      have zl := zl24 ((t - S) * r)
      rw [if_pos q2, if_pos (by unfold r32; omega), e, zb_s, if_pos a4, if_pos (by unfold r32; omega), e1, zb_s, e2, zb_s]
      exact nxt _ (by first | decide | omega)
    · rw [if_neg q2]; exact nxt v (by first | decide | omega)
/-- what playing may change, reference -/
def pmF (w : Int) (F F' : zF) : Prop := ∀ c y k, ¬ (c = 13 ∧ y = w ∧ 65 ≤ k ∧ k ≤ 69) → F' c y k = F c y k
def pmB (w : Int) (B B' : zB) : Prop := ∀ c y k x, ¬ (c = 13 ∧ y = w ∧ (k = 70 ∨ k = 71)) → B' c y k x = B c y k x
theorem pmF_t {w : Int} {F F1 F2 : zF} (h : pmF w F F1) (h' : pmF w F1 F2) : pmF w F F2 := fun c y k n => by rw [h' c y k n, h c y k n]
theorem pmB_t {w : Int} {B B1 B2 : zB} (h : pmB w B B1) (h' : pmB w B1 B2) : pmB w B B2 := fun c y k x n => by rw [h' c y k x n, h c y k x n]
theorem pmF_w {w x : Int} {F : zF} {k : Nat} (h0 : 65 ≤ k) (h1 : k ≤ 69) : pmF w F (zup3 F 13 w k x) := fun c y j n => by rw [zup3_v, if_neg (by first | decide | omega)]
theorem pmB_w {w i x : Int} {B : zB} {k : Nat} (hk : k = 70 ∨ k = 71) : pmB w B (zup4 B 13 w k i x) := fun c y j z n => by rw [zup4_v, if_neg (by first | decide | omega)]
def PCm (w : Int) (F : zF) : Prop := (-32768 ≤ F 13 w 67 ∧ F 13 w 67 ≤ 32767) ∧ (-32768 ≤ F 13 w 68 ∧ F 13 w 68 ≤ 32767) ∧ (0 ≤ F 13 w 69 ∧ F 13 w 69 ≤ 88)
def cdQ (w : Int) (F : zF) (B : zB) (x : zO) : Prop := ∃ r F', x = some (r, F', B) ∧ pmF w F F' ∧ F' 13 w 65 = F 13 w 65 ∧ PCm w F'
theorem L_c130 {w l4 a b : Int} (w0 : 0 ≤ w ∧ w < 3) (hT : TQm B) (h : PCm w F) (h4 : 0 ≤ l4 ∧ l4 ≤ 100) (ha : -200000 ≤ a + b ∧ a + b ≤ 200000) : cdQ w F B (f_M_coded_130 K l4 w w a b F B) := by
  obtain ⟨h1, h2, h3⟩ := h
  obtain ⟨r, e, r0, r1⟩ := L_held (K := K) (F := F) (B := B) (v := a + b) (lo := -32768) (hi := 32767) (by unfold r32; omega) (by decide) (by decide) (by decide)
  have m := hT.2.1 (l4 % 8) (by first | decide | omega) (by first | decide | omega)
  obtain ⟨r', e', r0', r1'⟩ := L_held (K := K) (F := zup3 F 13 w 68 r) (B := B) (v := F 13 w 69 + B 14 0 97 (l4 % 8)) (lo := 0) (hi := 88) (by unfold r32; omega) (by decide) (by decide) (by decide)
  unfold f_M_coded_130
  rw [if_pos w0, e, zb_s, if_pos w0, zrm_e h4.1 (by unfold r32; omega) (by decide) (by decide), if_pos (by first | decide | omega), e', zb_s]
  refine ⟨_, _, rfl, pmF_t (pmF_w (by decide) (by decide)) (pmF_w (by decide) (by decide)), by rw [zup3_v, if_neg (by first | decide | omega), zup3_v, if_neg (by first | decide | omega)], ?_⟩
  unfold PCm
  rw [zup3_v, if_neg (by first | decide | omega), zup3_v, if_neg (by first | decide | omega), zup3_v, if_neg (by first | decide | omega), zup3_v, if_pos ⟨rfl, rfl, rfl⟩, zup3_v, if_pos ⟨rfl, rfl, rfl⟩]
  exact ⟨h1, ⟨r0, r1⟩, ⟨r0', r1'⟩⟩
theorem L_cod {w : Int} (w0 : 0 ≤ w ∧ w < 3) (hT : TQm B) (h : PCm w F) : cdQ w F B (f_M_coded K w F B) := by
  have h' := h
  obtain ⟨h1, h2, h3⟩ := h
  have m := hT.1 (F 13 w 69) h3.1 (by first | decide | omega)
  have k112 : ∀ l6 l5 l4 : Int, 0 ≤ l6 ∧ l6 ≤ 130000 → (l5 = 0 ∨ l5 = 1) → 0 ≤ l4 ∧ l4 ≤ 100 → cdQ w F B (f_M_coded_112 K l6 l5 l4 w F B) := fun l6 l5 l4 q6 q5 q4 => by
    unfold f_M_coded_112
    rw [if_pos w0, if_pos (by unfold r32; omega)]
    by_cases c : l5 = 0
    · rw [if_pos c]; exact L_c130 w0 hT h' q4 (by first | decide | omega)
    · rw [if_neg c]; exact L_c130 w0 hT h' q4 (by first | decide | omega)
  have key : ∀ t l4 d : Int, (t = 0 ∨ t = 1) → l4 = 0 → (-70000 ≤ d ∧ d ≤ 70000) → cdQ w F B (f_M_coded_32 K l4 (B 14 0 96 (F 13 w 69)) d w t F B) := fun t l4 d ht h4 hd => by
    generalize B 14 0 96 (F 13 w 69) = L at m ⊢
    have z8 := zdv_e (a := L) (b := 8) (by first | decide | omega) (by unfold r32; omega) (by decide) (by decide)
    have z4 := zdv_e (a := L) (b := 4) (by first | decide | omega) (by unfold r32; omega) (by decide) (by decide)
    have z2 := zdv_e (a := L) (b := 2) (by first | decide | omega) (by unfold r32; omega) (by decide) (by decide)
    have k94 : ∀ l6 l5 l4 l2 : Int, 0 ≤ l6 ∧ l6 ≤ 90000 → (l5 = 0 ∨ l5 = 1) → 0 ≤ l4 ∧ l4 ≤ 90 → (-200000 ≤ l2 ∧ l2 ≤ 200000) → cdQ w F B (f_M_coded_94 K l6 l5 l4 L l2 w F B) := fun l6 l5 l4 l2 q6 q5 q4 q2 => by
      unfold f_M_coded_94
      rw [z4, if_pos (by unfold r32; omega), if_pos (by unfold r32; omega)]
      by_cases c : l2 < L / 4
      · rw [if_pos c]; exact k112 _ _ _ (by first | decide | omega) q5 (by first | decide | omega)
      · rw [if_neg c]; exact k112 _ _ _ (by first | decide | omega) q5 (by first | decide | omega)
    have k70 : ∀ l6 l5 l4 l2 : Int, 0 ≤ l6 ∧ l6 ≤ 50000 → (l5 = 0 ∨ l5 = 1) → 0 ≤ l4 ∧ l4 ≤ 80 → (-150000 ≤ l2 ∧ l2 ≤ 150000) → cdQ w F B (f_M_coded_70 K l6 l5 l4 L l2 w F B) := fun l6 l5 l4 l2 q6 q5 q4 q2 => by
      unfold f_M_coded_70
      rw [z2, if_pos (by unfold r32; omega), if_pos (by unfold r32; omega)]
      by_cases c : l2 < L / 2
      · rw [if_pos c]; exact k94 _ _ _ _ (by first | decide | omega) q5 (by first | decide | omega) (by first | decide | omega)
      · rw [if_neg c]; exact k94 _ _ _ _ (by first | decide | omega) q5 (by first | decide | omega) (by first | decide | omega)
    have k46 : ∀ l5 l4 l2 : Int, (l5 = 0 ∨ l5 = 1) → 0 ≤ l4 ∧ l4 ≤ 70 → (-70000 ≤ l2 ∧ l2 ≤ 70000) → cdQ w F B (f_M_coded_46 K l5 l4 L l2 w F B) := fun l5 l4 l2 q5 q4 q2 => by
      unfold f_M_coded_46
      rw [z8, if_pos (by unfold r32; omega), if_pos (by unfold r32; omega)]
      by_cases c : l2 < L
      · rw [if_pos c]; exact k70 _ _ _ _ (by first | decide | omega) q5 (by first | decide | omega) (by first | decide | omega)
      · rw [if_neg c]; exact k70 _ _ _ _ (by first | decide | omega) q5 (by first | decide | omega) (by first | decide | omega)
    unfold f_M_coded_32
    rw [if_pos (by unfold r32; omega)]
    by_cases c : t = 0
    · rw [if_pos c]; exact k46 _ _ _ ht (by first | decide | omega) hd
    · rw [if_neg c]; exact k46 _ _ _ ht (by first | decide | omega) (by first | decide | omega)
  unfold f_M_coded
  rw [if_pos w0, if_pos (by first | decide | omega), if_pos (by unfold r32; omega)]
  by_cases c : 0 ≤ F 13 w 67 - F 13 w 68
  · rw [if_pos c]; exact key 0 0 _ (Or.inl rfl) rfl (by first | decide | omega)
  · rw [if_neg c]; exact key 1 0 _ (Or.inr rfl) rfl (by first | decide | omega)
end
theorem MXh_f {w c : Int} {F F' : zF} {B B' : zB} (h : MXh w c F B) (f : pmF w F F') (b : pmB w B B') : MXh w c F' B' := by
  have e : ∀ k x, k ≤ 60 → B' 13 w k x = B 13 w k x := fun k x hk => b 13 w k x (by first | decide | omega)
  unfold MXh at *
  rw [f 13 w 54 (by first | decide | omega), f 13 w 6 (by first | decide | omega)]
  refine ⟨h.1, h.2.1, h.2.2.1, fun j j0 j1 => ?_⟩
  rw [e 55 j (by decide), e 56 j (by decide), e 57 j (by decide), e 58 j (by decide), e 59 j (by decide), e 9 _ (by decide)]
  exact h.2.2.2 j j0 j1
theorem L_pl33 {K : Nat} {w c n P : Int} {F0 : zF} {B0 : zB} (hK : 60000 ≤ K) (hT : TQm B0) (h : MXh w c F0 B0) (n0 : 0 ≤ n ∧ n ≤ 1000) (P0 : 0 ≤ P ∧ P ≤ 1000000) : ∀ (d N : Nat) (i : Int) (F : zF) (B : zB), i + d = n → 0 ≤ i → d < N → pmF w F0 F → pmB w B0 B → F 13 w 65 = P + i → PCm w F → ∃ r F' B', f_M_play_33 K N i w n F B = some (r, F', B') ∧ r = P + n ∧ pmF w F0 F' ∧ pmB w B0 B' ∧ F' 13 w 65 = P + n ∧ F' 13 w 66 = n ∧ PCm w F' := by
  have w0 := h.1
  intro d
  induction d with
  | zero =>
    intro N i F B hi i0 hN f b hP hC
    obtain ⟨p, rfl⟩ : ∃ p, N = p + 1 := ⟨N - 1, (by first | decide | omega)⟩
    rw [f_M_play_33, if_pos (by unfold r32; omega), if_pos (by unfold r32; omega), if_pos (by first | decide | omega), if_pos w0]
    refine ⟨_, _, B, rfl, by rw [hP]; omega, pmF_t f (pmF_w (by decide) (by decide)), b, by rw [zup3_v, if_neg (by first | decide | omega), hP]; omega, by rw [zup3_v, if_pos ⟨rfl, rfl, rfl⟩], ?_⟩
    unfold PCm at *
    rw [zup3_v, if_neg (by first | decide | omega), zup3_v, if_neg (by first | decide | omega), zup3_v, if_neg (by first | decide | omega)]
    exact hC
  | succ d ih =>
    intro N i F B hi i0 hN f b hP hC
    obtain ⟨p, rfl⟩ : ∃ p, N = p + 1 := ⟨N - 1, (by first | decide | omega)⟩
    have hm := MXh_f h f b
    have hTB : TQm B := TQm_e hT (fun k x _ => b 14 0 k x (by first | decide | omega))
    have hc := hm.2.1
    obtain ⟨v, e, v0, v1⟩ := L_mix5 (K := K) (t := F 13 w 65) hm (by first | decide | omega) c.toNat K 0 0 (by first | decide | omega) (by decide) (by first | decide | omega) (by first | decide | omega)
    have e' : f_M_mixed K w (F 13 w 65) F B = some (v, F, B) := e
    have z3 := zdv2 (d := v - F 13 w 67) (by have := hC.1; unfold r32; omega)
    have z4 : -32768 ≤ F 13 w 67 + zdv (v - F 13 w 67) 2 ∧ F 13 w 67 + zdv (v - F 13 w 67) 2 ≤ 32767 := by
      have := hC.1
      rcases Int.le_total 0 (v - F 13 w 67) with q | q
      · have := z3.1 q; omega
      · have := z3.2 q; omega
    rw [f_M_play_33, if_pos (by unfold r32; omega), if_pos (by unfold r32; omega), if_neg (by first | decide | omega), if_pos w0, e', zb_s, if_pos (by first | decide | omega)]
    generalize F 13 w 67 + zdv (v - F 13 w 67) 2 = x at z4 ⊢
    have hC1 : PCm w (zup3 F 13 w 67 x) := by
      unfold PCm at *
      rw [zup3_v, if_pos ⟨rfl, rfl, rfl⟩, zup3_v, if_neg (by first | decide | omega), zup3_v, if_neg (by first | decide | omega)]
      exact ⟨z4, hC.2⟩
    obtain ⟨r, F1, g0, g1, g2, g3⟩ := L_cod (K := K) (B := zup4 B 13 w 70 i x) w0 (TQm_e hTB (fun k x _ => by rw [zup4_v, if_neg (by first | decide | omega)])) hC1
    rw [g0, zb_s]
    refine ih p (i + 1) _ _ (by first | decide | omega) (by first | decide | omega) (by first | decide | omega) (pmF_t f (pmF_t (pmF_w (by decide) (by decide)) (pmF_t g1 (pmF_w (by decide) (by decide))))) (pmB_t b (pmB_t (pmB_w (by first | decide | omega)) (pmB_w (by first | decide | omega)))) (by rw [zup3_v, if_pos ⟨rfl, rfl, rfl⟩, g2, zup3_v, if_neg (by first | decide | omega), hP]; omega) ?_
    unfold PCm at *
    rw [zup3_v, if_neg (by first | decide | omega), zup3_v, if_neg (by first | decide | omega), zup3_v, if_neg (by first | decide | omega)]
    exact g3
end
