section
/-! ===== play: numbers; the class's side ===== -/
theorem tdvB {a b y : Int} (hb : 0 < b) (h : -(b * y) ≤ a ∧ a ≤ b * y) : -y ≤ a.tdiv b ∧ a.tdiv b ≤ y := by
  rcases Int.lt_or_le a 0 with n | n
  · obtain ⟨c, rfl⟩ : ∃ c, a = -c := ⟨-a, (by first | decide | omega)⟩
    rw [Int.neg_tdiv, Int.tdiv_eq_ediv_of_nonneg (by first | decide | omega)]
    have k : c / b ≤ y := Int.ediv_le_of_le_mul hb (by rw [Int.mul_comm y b]; omega)
    have k0 : 0 ≤ c / b := Int.ediv_nonneg (by first | decide | omega) (by first | decide | omega)
    omega
  · rw [Int.tdiv_eq_ediv_of_nonneg n]
    have k : a / b ≤ y := Int.ediv_le_of_le_mul hb (by rw [Int.mul_comm y b]; omega)
    have k0 : 0 ≤ a / b := Int.ediv_nonneg n (by first | decide | omega)
    omega
theorem zdvB {a b y : Int} (ha : r32 a) (hb : 0 < b) (rb : r32 b) (h : -(b * y) ≤ a ∧ a ≤ b * y) : -y ≤ zdv a b ∧ zdv a b ≤ y := by
  rw [zdv_t ha hb rb]; exact tdvB hb h
theorem zdv2 {d : Int} (hd : r32 d) : (0 ≤ d → 0 ≤ zdv d 2 ∧ zdv d 2 ≤ d) ∧ (d ≤ 0 → d ≤ zdv d 2 ∧ zdv d 2 ≤ 0) := by
  rw [zdv_t hd (by decide) (by decide)]
  refine ⟨fun h => ?_, fun h => ?_⟩
  · rw [Int.tdiv_eq_ediv_of_nonneg h]; omega
  · obtain ⟨c, rfl⟩ : ∃ c, d = -c := ⟨-d, (by first | decide | omega)⟩
    rw [Int.neg_tdiv, Int.tdiv_eq_ediv_of_nonneg (by first | decide | omega)]; omega
theorem zush24 (a : Int) : 0 ≤ zushr a 24 ∧ zushr a 24 ≤ 255 := by
  have h : zushr a 24 = (BitVec.ofInt 32 a >>> 24).toInt := rfl
  have e : (BitVec.ofInt 32 a >>> 24).toNat = (a % 4294967296).toNat / 16777216 := by
    rw [BitVec.toNat_ushiftRight, Nat.shiftRight_eq_div_pow, BitVec.toNat_ofInt]; rfl
  rw [h, BitVec.toInt_eq_toNat_of_lt (by rw [e]; omega), e]
  omega
theorem zand7 (x : Int) : zand x 7 = x % 8 := by
  have h : (iI x &&& iI 7).toBitVec = BitVec.ofInt 32 x &&& 7#32 := rfl
  have hn : (BitVec.ofInt 32 x &&& 7#32).toNat = (x % 8).toNat := by
    rw [BitVec.toNat_and, BitVec.toNat_ofInt]
    show (x % (2 ^ 32 : Nat)).toNat &&& 7 = _
    rw [show (x % (2 ^ 32 : Nat)).toNat &&& 7 = (x % (2 ^ 32 : Nat)).toNat % 8 from Nat.and_two_pow_sub_one_eq_mod _ 3]
    omega
  show (iI x &&& iI 7).toBitVec.toInt = x % 8
  rw [h, BitVec.toInt_eq_toNat_of_lt (by rw [hn]; omega), hn]
  omega
theorem wv3 : ∀ x : Fin 257, -128 ≤ zdv (((x.val : Int) - 128) * (128 - zabs ((x.val : Int) - 128))) 32 ∧ zdv (((x.val : Int) - 128) * (128 - zabs ((x.val : Int) - 128))) 32 ≤ 128 := by decide +kernel
theorem wv3e {s : Int} (h : -128 ≤ s ∧ s ≤ 128) : -128 ≤ zdv (s * (128 - zabs s)) 32 ∧ zdv (s * (128 - zabs s)) 32 ≤ 128 := by
  have k := wv3 ⟨(s + 128).toNat, (by first | decide | omega)⟩
  rw [show (((⟨(s + 128).toNat, (by first | decide | omega)⟩ : Fin 257).val : Nat) : Int) - 128 = s by show (((s + 128).toNat : Nat) : Int) - 128 = s; omega] at k
  exact k
theorem mul3 {a b c : Int} (ha : -128 ≤ a ∧ a ≤ 128) (hb : 0 ≤ b ∧ b ≤ 256) (hc : 0 ≤ c ∧ c ≤ 127) : -(1024 * 4064) ≤ a * b * c ∧ a * b * c ≤ 1024 * 4064 := by
  have h1 : a * b ≤ 128 * b := Int.mul_le_mul_of_nonneg_right ha.2 hb.1
  have h2 : -128 * b ≤ a * b := Int.mul_le_mul_of_nonneg_right ha.1 hb.1
  have h3 : a * b * c ≤ 32768 * c := Int.mul_le_mul_of_nonneg_right (by first | decide | omega) hc.1
  have h4 : -32768 * c ≤ a * b * c := Int.mul_le_mul_of_nonneg_right (by first | decide | omega) hc.1
  omega
theorem zt13 : ztl 13 = 12 := by decide +kernel
theorem zt14 : ztl 14 = 89 ∧ (∀ k : Fin 89, 7 ≤ ztv 14 (k.val : Int) ∧ ztv 14 (k.val : Int) ≤ 32767) := by decide +kernel
theorem zt15 : ztl 15 = 8 ∧ (∀ k : Fin 8, -1 ≤ ztv 15 (k.val : Int) ∧ ztv 15 (k.val : Int) ≤ 8) := by decide +kernel
section
variable {K : zK} {F : zF} {B : zB}
theorem C_wave {a b : Int} (ha : 0 ≤ a ∧ a ≤ 3) (hb : 0 ≤ b ∧ b ≤ 255) : ∃ r, f_Performance_wave K a b F B = some (r, F, B) ∧ -128 ≤ r ∧ r ≤ 128 := by
  have key : ∀ s : Int, -128 ≤ s ∧ s ≤ 128 → ∃ r, f_Performance_wave_24 K a b s F B = some (r, F, B) ∧ -128 ≤ r ∧ r ≤ 128 := fun s hs => by
    unfold f_Performance_wave_24 f_Performance_wave_66
    rw [if_pos (by unfold r32; omega)]
    by_cases c0 : a = 0
    · rw [if_pos c0, if_pos (by unfold r32; omega)]
      by_cases c : 128 ≤ b
      · rw [if_pos c]; exact ⟨_, rfl, (by first | decide | omega), (by first | decide | omega)⟩
      · rw [if_neg c]; exact ⟨_, rfl, (by first | decide | omega), (by first | decide | omega)⟩
    · rw [if_neg c0]
      by_cases c1 : a = 1
      · rw [if_pos c1]; exact ⟨_, rfl, (by first | decide | omega), (by first | decide | omega)⟩
      · rw [if_neg c1]
        by_cases c2 : a = 2
        · rw [if_pos c2]; exact ⟨_, rfl, hs⟩
        · rw [if_neg c2, if_pos (by unfold r32; omega)]; exact ⟨_, rfl, wv3e hs⟩
  unfold f_Performance_wave
  rw [if_pos (by unfold r32; omega)]
  by_cases c : 128 ≤ b
  · rw [if_pos c]; exact key _ (by first | decide | omega)
  · rw [if_neg c]; exact key _ (by first | decide | omega)
theorem C_rise {x : Int} (hx : 0 ≤ x ∧ x ≤ 200000000) : ∃ r, f_Performance_rise K x F B = some (r, F, B) ∧ 0 ≤ r ∧ r ≤ 256 := by
  unfold f_Performance_rise f_Performance_rise_34
  rw [if_pos (by unfold r32; omega)]
  by_cases c : 40 ≤ x
  · rw [if_pos c, zdv_e (by first | decide | omega) (by unfold r32; omega) (by decide) (by decide), if_pos (by unfold r32; omega)]
    refine ⟨_, rfl, ?_⟩
    unfold zmax
    split <;> omega
  · rw [if_neg c, zdv_e (by first | decide | omega) (by unfold r32; omega) (by decide) (by decide)]
    exact ⟨_, rfl, (by first | decide | omega), (by first | decide | omega)⟩
theorem C_lev {a b : Int} (ha : 0 ≤ a ∧ a ≤ 200000000) (hb : 0 ≤ b ∧ b ≤ 200000000) (hab : a < b + 400) : ∃ r, f_Performance_level K a b F B = some (r, F, B) ∧ 0 ≤ r ∧ r ≤ 256 := by
  obtain ⟨r, e, r0, r1⟩ := C_rise (K := K) (F := F) (B := B) hb
  obtain ⟨r', e', r0', r1'⟩ := C_rise (K := K) (F := F) (B := B) ha
  unfold f_Performance_level f_Performance_level_28
  rw [if_pos (by unfold r32; omega), if_pos (by unfold r32; omega)]
  by_cases c : b ≤ a
  · have m1 : r * (400 - (a - b)) ≤ 256 * (400 - (a - b)) := Int.mul_le_mul_of_nonneg_right r1 (by first | decide | omega)
    have m2 : 0 ≤ r * (400 - (a - b)) := Int.mul_nonneg r0 (by first | decide | omega)
    rw [if_pos c, e, zb_s, zdv_e m2 (by unfold r32; omega) (by decide) (by decide)]
    exact ⟨_, rfl, (by first | decide | omega), (by first | decide | omega)⟩
  · rw [if_neg c, e', zb_s]; exact ⟨_, rfl, r0', r1'⟩
theorem C_turn {a : Int} (ha : 0 ≤ a ∧ a ≤ 127) : ∃ r, f_Performance_turn K a F B = some (r, F, B) := by
  unfold f_Performance_turn f_Performance_turn_35
  rw [zrm_e ha.1 (by unfold r32; omega) (by decide) (by decide), zdv_e ha.1 (by unfold r32; omega) (by decide) (by decide), zt13, if_pos (by first | decide | omega), if_pos (by unfold r32; omega)]
  by_cases c : 9 < a / 12
  · rw [if_pos c]; exact ⟨_, rfl⟩
  · rw [if_neg c]; exact ⟨_, rfl⟩
end
/-- what playing may change, class -/
def plF (s : Int) (F F' : zF) : Prop := ∀ c y k, ¬ (c = 5 ∧ y = s ∧ (k = 2 ∨ k = 3 ∨ k = 11 ∨ k = 12 ∨ k = 13)) → F' c y k = F c y k
def plB (s : Int) (B B' : zB) : Prop := ∀ c y k x, ¬ (c = 5 ∧ y = s ∧ (k = 4 ∨ k = 5 ∨ k = 6)) → B' c y k x = B c y k x
theorem plF_t {s : Int} {F F1 F2 : zF} (h : plF s F F1) (h' : plF s F1 F2) : plF s F F2 := fun c y k n => by rw [h' c y k n, h c y k n]
theorem plB_t {s : Int} {B B1 B2 : zB} (h : plB s B B1) (h' : plB s B1 B2) : plB s B B2 := fun c y k x n => by rw [h' c y k x n, h c y k x n]
theorem plB_w {s i x : Int} {B : zB} {k : Nat} (hk : k = 4 ∨ k = 5 ∨ k = 6) : plB s B (zup4 B 5 s k i x) := fun c y j z n => by rw [zup4_v, if_neg (by first | decide | omega)]
theorem plF_w {s x : Int} {F : zF} {k : Nat} (hk : k = 2 ∨ k = 3 ∨ k = 11 ∨ k = 12 ∨ k = 13) : plF s F (zup3 F 5 s k x) := fun c y j n => by rw [zup3_v, if_neg (by first | decide | omega)]
theorem C_m131 {K : zK} {s j n P E S l9 l10 l11 X : Int} {F : zF} (hs : 0 ≤ s ∧ s < K.2 5) (h11 : 0 ≤ l11 ∧ l11 ≤ 3) (hP : F 5 s 2 = P) (P0 : 0 ≤ P ∧ P ≤ 2000000) (hj : 0 ≤ j ∧ j < 2000) (n0 : 0 ≤ n ∧ n ≤ 1000) (S0 : 0 ≤ S) (SE : S ≤ E) (E1 : E ≤ 150000000) (h9 : l9 ≤ P + n ∧ l9 ≤ E + 400) (q9 : 0 ≤ l9) : ∀ (d N : Nat) (l13 l12 : Int) (B : zB), l9 ≤ l13 + d → d < N → P ≤ l13 → S ≤ l13 → l13 ≤ 200000000 → (0 ≤ B 5 s 343 j ∧ B 5 s 343 j ≤ 127) → (∀ i, 0 ≤ i → i < n → (-(X + 5000) ≤ B 5 s 6 i ∧ B 5 s 6 i ≤ X + 5000) ∧ (l13 ≤ i + P → -X ≤ B 5 s 6 i ∧ B 5 s 6 i ≤ X)) → ∃ B', f_Performance_mixSound_131 K N l13 l12 l11 l10 l9 E S s j F B = some (0, F, B') ∧ plB s B B' ∧ ∀ i, 0 ≤ i → i < n → -(X + 5000) ≤ B' 5 s 6 i ∧ B' 5 s 6 i ≤ X + 5000 := by
  intro d
  induction d with
  | zero =>
    intro N l13 l12 B hd hN p0 s0 l1 h343 hB
    obtain ⟨p, rfl⟩ : ∃ p, N = p + 1 := ⟨N - 1, (by first | decide | omega)⟩
    rw [f_Performance_mixSound_131, if_pos (by unfold r32; omega), if_pos (by unfold r32; omega), if_pos (by first | decide | omega)]
    exact ⟨B, rfl, fun _ _ _ _ _ => rfl, fun i i0 i1 => (hB i i0 i1).1⟩
  | succ d ih =>
    intro N l13 l12 B hd hN p0 s0 l1 h343 hB
    obtain ⟨p, rfl⟩ : ∃ p, N = p + 1 := ⟨N - 1, (by first | decide | omega)⟩
    rw [f_Performance_mixSound_131, if_pos (by unfold r32; omega), if_pos (by unfold r32; omega)]
    by_cases c : l9 ≤ l13
    · rw [if_pos c]
      exact ⟨B, rfl, fun _ _ _ _ _ => rfl, fun i i0 i1 => (hB i i0 i1).1⟩
    obtain ⟨r, e, r0, r1⟩ := C_wave (K := K) (F := F) (B := B) h11 (zush24 l12)
    obtain ⟨t, e', t0, t1⟩ := C_lev (K := K) (F := F) (B := B) (a := l13 - S) (b := E - S) (by first | decide | omega) (by first | decide | omega) (by first | decide | omega)
    have m := mul3 ⟨r0, r1⟩ ⟨t0, t1⟩ h343
    have z := zdvB (a := r * t * B 5 s 343 j) (b := 1024) (y := 4064) (by unfold r32; omega) (by decide) (by decide) m
    rw [if_neg c, e, zb_s, if_pos hs, hP, if_pos (by first | decide | omega), e', zb_s, if_pos hj]
    generalize zdv (r * t * B 5 s 343 j) 1024 = v at z ⊢
    have k0 := hB (l13 - P) (by first | decide | omega) (by first | decide | omega)
    obtain ⟨B', g1, g2, g3⟩ := ih p (l13 + 1) (l12 + l10) (zup4 B 5 s 6 (l13 - P) (B 5 s 6 (l13 - P) + v)) (by first | decide | omega) (by first | decide | omega) (by first | decide | omega) (by first | decide | omega) (by first | decide | omega) (by rw [zup4_v, if_neg (by first | decide | omega)]; exact h343) (fun i i0 i1 => by
      by_cases ei : i = l13 - P
      · rw [ei, zup4_v, if_pos ⟨rfl, rfl, rfl, rfl⟩]
        exact ⟨by have := k0.2 (by first | decide | omega); omega, fun q => (by first | decide | omega)⟩
      · rw [zup4_v, if_neg (by first | decide | omega)]
        exact ⟨(hB i i0 i1).1, fun q => (hB i i0 i1).2 (by first | decide | omega)⟩)
    exact ⟨B', g1, plB_t (plB_w (by first | decide | omega)) g2, g3⟩
theorem C_mix {K : zK} {s p j n X : Int} {F : zF} {B : zB} (hK : 60000 ≤ K.1) (hs : 0 ≤ s ∧ s < K.2 5) (hp : 0 ≤ p ∧ p < K.2 6) (ht : 20 ≤ F 6 p 6 ∧ F 6 p 6 ≤ 300) (P0 : 0 ≤ F 5 s 2 ∧ F 5 s 2 ≤ 2000000) (hj : 0 ≤ j ∧ j < 2000) (n0 : 0 ≤ n ∧ n ≤ 1000) (b0 : 0 ≤ B 5 s 340 j ∧ B 5 s 340 j < 4) (b2 : 0 ≤ B 5 s 342 j ∧ B 5 s 342 j ≤ 127) (b3 : 0 ≤ B 5 s 343 j ∧ B 5 s 343 j ≤ 127) (b4 : 0 ≤ B 5 s 344 j ∧ B 5 s 344 j < B 5 s 345 j ∧ B 5 s 345 j ≤ 500000) (hq : 0 ≤ B 6 p 0 (B 5 s 340 j) ∧ B 6 p 0 (B 5 s 340 j) < K.2 4) (hw : 0 ≤ F 4 (B 6 p 0 (B 5 s 340 j)) 2 ∧ F 4 (B 6 p 0 (B 5 s 340 j)) 2 ≤ 3) (X0 : 0 ≤ X) (hB : ∀ i, 0 ≤ i → i < n → -X ≤ B 5 s 6 i ∧ B 5 s 6 i ≤ X) : ∃ B', f_Performance_mixSound K s p j n F B = some (0, F, B') ∧ plB s B B' ∧ ∀ i, 0 ≤ i → i < n → -(X + 5000) ≤ B' 5 s 6 i ∧ B' 5 s 6 i ≤ X + 5000 := by
  have zm : zmax (F 6 p 6) 1 = F 6 p 6 := by unfold zmax; rw [if_neg (by first | decide | omega)]
  have zS : zldv (B 5 s 344 j * 5000) (F 6 p 6) = B 5 s 344 j * 5000 / F 6 p 6 := zldv_e (by first | decide | omega) (by first | decide | omega) (by first | decide | omega) (by first | decide | omega)
  have zE : zldv (B 5 s 345 j * 5000) (F 6 p 6) = B 5 s 345 j * 5000 / F 6 p 6 := zldv_e (by first | decide | omega) (by first | decide | omega) (by first | decide | omega) (by first | decide | omega)
  have S0 : 0 ≤ B 5 s 344 j * 5000 / F 6 p 6 := Int.ediv_nonneg (by first | decide | omega) (by first | decide | omega)
  have SE : B 5 s 344 j * 5000 / F 6 p 6 ≤ B 5 s 345 j * 5000 / F 6 p 6 := Int.ediv_le_ediv (by first | decide | omega) (by first | decide | omega)
  have E1 : B 5 s 345 j * 5000 / F 6 p 6 ≤ 125000000 := Int.ediv_le_of_le_mul (by first | decide | omega) (by first | decide | omega)
  unfold f_Performance_mixSound
  rw [zm, zS, zE]
  generalize B 5 s 344 j * 5000 / F 6 p 6 = S at S0 SE ⊢
  generalize B 5 s 345 j * 5000 / F 6 p 6 = E at SE E1 ⊢
  have hM : S ≤ zmax S (F 5 s 2) ∧ F 5 s 2 ≤ zmax S (F 5 s 2) ∧ zmax S (F 5 s 2) ≤ S + F 5 s 2 := by unfold zmax; split <;> omega
  have hL : zmin (E + 400) (F 5 s 2 + n) ≤ E + 400 ∧ zmin (E + 400) (F 5 s 2 + n) ≤ F 5 s 2 + n ∧ 0 ≤ zmin (E + 400) (F 5 s 2 + n) := by unfold zmin; split <;> omega
  rw [if_pos hp, if_pos (by unfold r32; omega), if_pos (by unfold r32; omega), if_pos hs, if_pos hj, if_pos (by unfold r32; omega), if_pos (lI_n0 (by first | decide | omega) (by unfold r64; omega)), if_pos (by unfold r32; omega), if_pos (by unfold r32; omega), if_pos (by unfold r32; omega), if_pos (by unfold r32; omega), if_pos (by unfold r32; omega), if_pos (by unfold r32; omega), if_pos (by unfold r32; omega)]
  by_cases c : zmax S (F 5 s 2) < zmin (E + 400) (F 5 s 2 + n)
  · obtain ⟨r, e⟩ := C_turn (K := K) (F := F) (B := B) b2
    rw [if_pos c, e, zb_s, if_pos b0, if_pos hq]
    refine C_m131 (X := X) hs hw rfl P0 hj n0 S0 SE (by first | decide | omega) ⟨hL.2.1, hL.1⟩ hL.2.2 1400 K.1 _ _ B ?_ (by first | decide | omega) hM.2.1 hM.1 (by first | decide | omega) b3 (fun i i0 i1 => ⟨by have := hB i i0 i1; omega, fun _ => hB i i0 i1⟩)
    have : zmin (E + 400) (F 5 s 2 + n) ≤ F 5 s 2 + 1000 := by omega
    omega
  · rw [if_neg c]
    exact ⟨B, rfl, fun _ _ _ _ _ => rfl, fun i i0 i1 => by have := hB i i0 i1; omega⟩
end
