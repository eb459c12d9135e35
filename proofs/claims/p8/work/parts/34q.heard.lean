section
/-! ===== keys heard; the study made; frames of calls ===== -/
variable {cc : Int}
theorem fmK : ∀ x : Fin 36, (0 ≤ zxor ((x.val : Int) - 24) 12 → 0 ≤ zrm ((x.val : Int) - 24) 12 ∧ zrm ((x.val : Int) - 24) 12 < 12) ∧ (¬ 0 ≤ zxor ((x.val : Int) - 24) 12 → ¬ zrm ((x.val : Int) - 24) 12 = 0 → 0 ≤ zrm ((x.val : Int) - 24) 12 + 12 ∧ zrm ((x.val : Int) - 24) 12 + 12 < 12) := by decide +kernel
theorem C_fmK {K : zK} {a : Int} {F : zF} {B : zB} (h : -24 ≤ a ∧ a ≤ 11) : ∃ r, f_Math_floorMod K a 12 F B = some (r, F, B) ∧ 0 ≤ r ∧ r < 12 := by
  have k := fmK ⟨(a + 24).toNat, (by first | decide | omega)⟩
  rw [show (((⟨(a + 24).toNat, (by first | decide | omega)⟩ : Fin 36).val : Nat) : Int) - 24 = a by show (((a + 24).toNat : Nat) : Int) - 24 = a; omega] at k
  unfold f_Math_floorMod f_Math_floorMod_18
  rw [if_pos (iI_n0 (by decide) (by decide)), if_pos (show r32 (zxor a 12) from toI_r _)]
  by_cases c : 0 ≤ zxor a 12
  · rw [if_pos c]; exact ⟨_, rfl, k.1 c⟩
  · rw [if_neg c, if_pos (zrm_R _ _)]
    by_cases c1 : zrm a 12 = 0
    · rw [if_pos c1]; exact ⟨_, rfl, (by first | decide | omega), (by first | decide | omega)⟩
    · rw [if_neg c1]; exact ⟨_, rfl, k.2 c c1⟩
theorem zt11_f : ztl 11 = 12 ∧ ztl 12 = 12 ∧ (∀ k : Fin 12, (0 ≤ ztv 11 (k.val : Int) ∧ ztv 11 (k.val : Int) ≤ 1000) ∧ (0 ≤ ztv 12 (k.val : Int) ∧ ztv 12 (k.val : Int) ≤ 1000)) := by decide +kernel
theorem zt11_v {x : Int} (h0 : 0 ≤ x) (h1 : x < 12) : (0 ≤ ztv 11 x ∧ ztv 11 x ≤ 1000) ∧ (0 ≤ ztv 12 x ∧ ztv 12 x ≤ 1000) := by
  have k := zt11_f.2.2 ⟨x.toNat, (by first | decide | omega)⟩
  rw [show (((⟨x.toNat, (by first | decide | omega)⟩ : Fin 12).val : Nat) : Int) = x by show ((x.toNat : Nat) : Int) = x; omega] at k
  exact k
/-- what hearing a key may change -/
def khB (s : Int) (B B' : zB) : Prop := ∀ c y k x, ¬ (c = 5 ∧ y = s ∧ k = 10) → B' c y k x = B c y k x
theorem khB_t {s : Int} {B B1 B2 : zB} (h : khB s B B1) (h' : khB s B1 B2) : khB s B B2 := fun c y k x n => by rw [h' c y k x n, h c y k x n]
theorem khB_w {s i x : Int} {B : zB} : khB s B (zup4 B 5 s 10 i x) := fun c y j z n => by rw [zup4_v, if_neg (by first | decide | omega)]
section
variable {K : zK} {s c : Int} {F : zF}
theorem C_kh112 {B : zB} {l4 l2 l1 : Int} {rec : Int → Int → Int → Int → zF → zB → zO} (hs : 0 ≤ s ∧ s < K.2 5) (hB : ∀ i, 0 ≤ i → i < 12 → 0 ≤ B 5 s 10 i ∧ B 5 s 10 i ≤ 1000000000) (h4 : 0 ≤ l4 ∧ l4 < 24) (h2 : -1 ≤ l2 ∧ l2 ≤ 12000000000000) (go : ∀ a b, (-1 ≤ a ∧ a ≤ 12000000000000) → zR (rec (l4 + 1) a b s F B) F B) : ∀ (d N : Nat) (i v : Int), i + d = 12 → 0 ≤ i → d < N → (0 ≤ v ∧ v ≤ 1000000000000 * i) → zR (f_Performance_keyHeard_112 rec K N i v l4 l2 l1 s F B) F B := by
  intro d
  induction d with
  | zero =>
    intro N i v hi i0 hN hv
    obtain ⟨m, rfl⟩ : ∃ m, N = m + 1 := ⟨N - 1, (by first | decide | omega)⟩
    rw [f_Performance_keyHeard_112, if_pos (by unfold r32; omega), if_pos (by first | decide | omega)]
    unfold f_Performance_keyHeard_186
    exact zR_g (by unfold r64; omega) (zR_g (by unfold r64; omega) (zR_i (fun _ => go _ _ h2) (fun _ => go _ _ (by first | decide | omega))))
  | succ d ih =>
    intro N i v hi i0 hN hv
    obtain ⟨m, rfl⟩ : ∃ m, N = m + 1 := ⟨N - 1, (by first | decide | omega)⟩
    obtain ⟨r, e, r0, r1⟩ := C_fmK (K := K) (a := i - l4) (F := F) (B := B) (by first | decide | omega)
    have z := zt11_v r0 r1
    have b := hB i i0 (by first | decide | omega)
    have nx : ∀ x, (0 ≤ x ∧ x ≤ 1000) → zR (f_Performance_keyHeard_162 rec (f_Performance_keyHeard_112 rec K m) K i l4 l2 l1 s v (B 5 s 10 i) x F B) F B := fun x hx => by
      have m1 : B 5 s 10 i * x ≤ 1000000000 * 1000 := Int.mul_le_mul b.2 hx.2 hx.1 (by first | decide | omega)
      have m2 : 0 ≤ B 5 s 10 i * x := Int.mul_nonneg b.1 hx.1
      unfold f_Performance_keyHeard_162
      exact zR_g (by unfold r32; omega) (ih m (i + 1) _ (by first | decide | omega) (by first | decide | omega) (by first | decide | omega) (by first | decide | omega))
    rw [f_Performance_keyHeard_112, if_pos (by unfold r32; omega), if_neg (by first | decide | omega), e, zb_s, zt11_f.1, zt11_f.2.1]
    exact zR_g hs (zR_g (by first | decide | omega) (zR_g (by unfold r32; omega) (zR_i (fun _ => zR_g (by first | decide | omega) (nx _ z.2)) (fun _ => zR_g (by first | decide | omega) (nx _ z.1)))))
theorem C_kh99 {B : zB} (hK : 60000 ≤ K.1) (hs : 0 ≤ s ∧ s < K.2 5) (hB : ∀ i, 0 ≤ i → i < 12 → 0 ≤ B 5 s 10 i ∧ B 5 s 10 i ≤ 1000000000) : ∀ (d N : Nat) (i a b : Int), i + d = 24 → 0 ≤ i → d < N → (-1 ≤ a ∧ a ≤ 12000000000000) → zR (f_Performance_keyHeard_99 K N i a b s F B) F B := by
  intro d
  induction d with
  | zero =>
    intro N i a b hi i0 hN ha
    obtain ⟨m, rfl⟩ : ∃ m, N = m + 1 := ⟨N - 1, (by first | decide | omega)⟩
    rw [f_Performance_keyHeard_99, if_pos (by unfold r32; omega), if_pos (by first | decide | omega)]
    exact zR_s
  | succ d ih =>
    intro N i a b hi i0 hN ha
    obtain ⟨m, rfl⟩ : ∃ m, N = m + 1 := ⟨N - 1, (by first | decide | omega)⟩
    rw [f_Performance_keyHeard_99, if_pos (by unfold r32; omega), if_neg (by first | decide | omega)]
    exact C_kh112 hs hB (by first | decide | omega) ha (fun a b ha => ih m (i + 1) a b (by first | decide | omega) (by first | decide | omega) (by first | decide | omega) ha) 12 K.1 0 0 (by first | decide | omega) (by decide) (by first | decide | omega) (by first | decide | omega)
theorem C_kh39 {B0 : zB} (hK : 60000 ≤ K.1) (hs : 0 ≤ s ∧ s < K.2 5) (hc : F 5 s 0 = c ∧ 0 ≤ c ∧ c ≤ 2000) (hS : SB s c B0) : ∀ (d N : Nat) (i : Int) (B : zB), i + d = c → 0 ≤ i → d < N → khB s B0 B → (∀ x, 0 ≤ x → x < 12 → 0 ≤ B 5 s 10 x ∧ B 5 s 10 x ≤ 500000 * i) → ∃ r B', f_Performance_keyHeard_39 K N i s F B = some (r, F, B') ∧ khB s B0 B' := by
  intro d
  induction d with
  | zero =>
    intro N i B hi i0 hN b hB
    obtain ⟨m, rfl⟩ : ∃ m, N = m + 1 := ⟨N - 1, (by first | decide | omega)⟩
    obtain ⟨r, e⟩ := C_kh99 (F := F) (B := B) hK hs (fun x x0 x1 => by have := hB x x0 x1; omega) 24 K.1 0 (-1) 0 (by first | decide | omega) (by decide) (by first | decide | omega) (by first | decide | omega)
    rw [f_Performance_keyHeard_39, if_pos hs, if_pos (by unfold r32; omega), hc.1, if_pos (by unfold r32; omega), if_pos (by first | decide | omega), e]
    exact ⟨r, B, rfl, b⟩
  | succ d ih =>
    intro N i B hi i0 hN b hB
    obtain ⟨m, rfl⟩ : ∃ m, N = m + 1 := ⟨N - 1, (by first | decide | omega)⟩
    obtain ⟨a0, a1, a2, a3, a4, a5, a6⟩ := hS i i0 (by first | decide | omega)
    have e2 : B 5 s 342 i = B0 5 s 342 i := b 5 s 342 i (by first | decide | omega)
    have e4 : B 5 s 344 i = B0 5 s 344 i := b 5 s 344 i (by first | decide | omega)
    have e5 : B 5 s 345 i = B0 5 s 345 i := b 5 s 345 i (by first | decide | omega)
    have ez : zrm (B0 5 s 342 i) 12 = B0 5 s 342 i % 12 := zrm_e a2.1 (by unfold r32; omega) (by decide) (by decide)
    rw [f_Performance_keyHeard_39, if_pos hs, if_pos (by unfold r32; omega), hc.1, if_pos (by unfold r32; omega), if_neg (by first | decide | omega), if_pos (by first | decide | omega), e2, e4, e5, ez, if_pos (by first | decide | omega), if_pos (by unfold r32; omega)]
    refine ih m (i + 1) _ (by first | decide | omega) (by first | decide | omega) (by first | decide | omega) (khB_t b khB_w) (fun x x0 x1 => ?_)
    have k := hB x x0 x1
    rw [zup4_v]
    split
    · have k' := hB (B0 5 s 342 i % 12) (by first | decide | omega) (by first | decide | omega)
      omega
    · omega
theorem C_kh18 {B0 : zB} (hs : 0 ≤ s ∧ s < K.2 5) : ∀ (d N : Nat) (i : Int) (B : zB), i + d = 12 → 0 ≤ i → d < N → khB s B0 B → (∀ x, 0 ≤ x → x < i → B 5 s 10 x = 0) → ∃ B', f_Performance_keyHeard_18 K N i s F B = f_Performance_keyHeard_39 K K.1 0 s F B' ∧ khB s B0 B' ∧ ∀ x, 0 ≤ x → x < 12 → B' 5 s 10 x = 0 := by
  intro d
  induction d with
  | zero =>
    intro N i B hi i0 hN b hB
    obtain ⟨m, rfl⟩ : ∃ m, N = m + 1 := ⟨N - 1, (by first | decide | omega)⟩
    rw [f_Performance_keyHeard_18, if_pos (by unfold r32; omega), if_pos (by first | decide | omega)]
    exact ⟨B, rfl, b, fun x x0 x1 => hB x x0 (by first | decide | omega)⟩
  | succ d ih =>
    intro N i B hi i0 hN b hB
    obtain ⟨m, rfl⟩ : ∃ m, N = m + 1 := ⟨N - 1, (by first | decide | omega)⟩
    rw [f_Performance_keyHeard_18, if_pos (by unfold r32; omega), if_neg (by first | decide | omega), if_pos hs, if_pos (by first | decide | omega)]
    refine ih m (i + 1) _ (by first | decide | omega) (by first | decide | omega) (by first | decide | omega) (khB_t b khB_w) (fun x x0 x1 => ?_)
    by_cases e : x = i
    · rw [e, zup4_v, if_pos ⟨rfl, rfl, rfl, rfl⟩]
    · rw [zup4_v, if_neg (by first | decide | omega)]; exact hB x x0 (by first | decide | omega)
theorem C_khd {B : zB} (hK : 60000 ≤ K.1) (hs : 0 ≤ s ∧ s < K.2 5) (h1 : F 5 s 1 = 0 ∨ F 5 s 1 = 1) (hc : F 5 s 1 = 0 → 0 ≤ F 5 s 0 ∧ F 5 s 0 ≤ 2000 ∧ SB s (F 5 s 0) B) : ∃ r B', f_Performance_keyHeard K s F B = some (r, F, B') ∧ khB s B B' := by
  unfold f_Performance_keyHeard f_Performance_keyHeard_14
  rw [if_pos hs, if_pos (by unfold r32; omega)]
  by_cases c1 : F 5 s 1 = 0
  · obtain ⟨c0, c2, hS⟩ := hc c1
    rw [if_pos c1, if_pos (by unfold r32; omega)]
    by_cases c3 : F 5 s 0 = 0
    · rw [if_pos c3]; exact ⟨-1, B, rfl, fun _ _ _ _ _ => rfl⟩
    · obtain ⟨B1, e, b1, z1⟩ := C_kh18 (F := F) (B0 := B) hs 12 K.1 0 B (by first | decide | omega) (by decide) (by first | decide | omega) (fun _ _ _ _ _ => rfl) (fun x x0 x1 => (by first | decide | omega))
      obtain ⟨r, B2, e2, b2⟩ := C_kh39 (F := F) (B0 := B) hK hs ⟨rfl, c0, c2⟩ hS (F 5 s 0).toNat K.1 0 B1 (by first | decide | omega) (by decide) (by first | decide | omega) b1 (fun x x0 x1 => by rw [z1 x x0 x1]; omega)
      rw [if_neg c3, e, e2]
      exact ⟨r, B2, rfl, b2⟩
  · rw [if_neg c1]; exact ⟨-1, B, rfl, fun _ _ _ _ _ => rfl⟩
end
section
variable {K : Nat} {F : zF} {B : zB}
/-- the sounds gathered, as hearing wants them -/
def GHs (n : Int) (B : zB) : Prop := ∀ j, 0 ≤ j → j < n → (0 ≤ B 14 0 63 j ∧ B 14 0 63 j < B 14 0 64 j ∧ B 14 0 64 j ≤ 500000) ∧ (0 ≤ B 14 0 65 j ∧ B 14 0 65 j ≤ 127)
theorem L_kh42 {n l6 l5 l3 : Int} {rec : Int → Int → Int → Int → zF → zB → zO} (hT : TQm B) (h : GHs n B) (n0 : 0 ≤ n ∧ n ≤ 2000) (h6 : 0 ≤ l6 ∧ l6 < 24) (h3 : -1 ≤ l3 ∧ l3 ≤ 2000000000000) (go : ∀ a b, (-1 ≤ a ∧ a ≤ 2000000000000) → zR (rec (l6 + 1) b a n F B) F B) : ∀ (d N : Nat) (i v : Int), i + d = n → 0 ≤ i → d < N → (0 ≤ v ∧ v ≤ 500000000 * i) → zR (f_M_keyHeard_42 rec K N i v l6 l5 l3 n F B) F B := by
  intro d
  induction d with
  | zero =>
    intro N i v hi i0 hN hv
    obtain ⟨m, rfl⟩ : ∃ m, N = m + 1 := ⟨N - 1, (by first | decide | omega)⟩
    rw [f_M_keyHeard_42, if_pos (by unfold r32; omega), if_pos (by unfold r32; omega), if_pos (by first | decide | omega)]
    unfold f_M_keyHeard_126
    exact zR_g (by unfold r64; omega) (zR_g (by unfold r64; omega) (zR_i (fun _ => go _ _ (by first | decide | omega)) (fun _ => go _ _ h3)))
  | succ d ih =>
    intro N i v hi i0 hN hv
    obtain ⟨m, rfl⟩ : ∃ m, N = m + 1 := ⟨N - 1, (by first | decide | omega)⟩
    obtain ⟨k1, k2⟩ := h i i0 (by first | decide | omega)
    have ez : zrm l6 12 = l6 % 12 := zrm_e h6.1 (by unfold r32; omega) (by decide) (by decide)
    have ed : zdv l6 12 = l6 / 12 := zdv_e h6.1 (by unfold r32; omega) (by decide) (by decide)
    obtain ⟨r, F1, B1, e, rfl, rfl, r0, r1⟩ := s_mod (K := K) (a := B 14 0 65 i - l6 % 12) (b := 12) (F := F) (B := B) (by unfold r32; omega) (by decide) (by decide)
    have t := hT.2.2 (l6 / 12 * 12 + r) (by first | decide | omega) (by first | decide | omega)
    rw [f_M_keyHeard_42, ez, ed, if_pos (by unfold r32; omega), if_pos (by unfold r32; omega), if_neg (by first | decide | omega), if_pos (by first | decide | omega), if_pos (by unfold r32; omega), e, zb_s, if_pos (by first | decide | omega), if_pos (by unfold r32; omega)]
    generalize B1 14 0 106 (l6 / 12 * 12 + r) = x at t ⊢
    have m1 : (B1 14 0 64 i - B1 14 0 63 i) * x ≤ 500000 * 1000 := Int.mul_le_mul (by first | decide | omega) t.2 t.1 (by first | decide | omega)
    have m2 : 0 ≤ (B1 14 0 64 i - B1 14 0 63 i) * x := Int.mul_nonneg (by first | decide | omega) t.1
    exact ih m (i + 1) _ (by first | decide | omega) (by first | decide | omega) (by first | decide | omega) (by first | decide | omega)
theorem L_kh29 {n : Int} (hK : 5000 ≤ K) (hT : TQm B) (h : GHs n B) (n0 : 0 ≤ n ∧ n ≤ 2000) : ∀ (d N : Nat) (i a b : Int), i + d = 24 → 0 ≤ i → d < N → (-1 ≤ a ∧ a ≤ 2000000000000) → zR (f_M_keyHeard_29 K N i b a n F B) F B := by
  intro d
  induction d with
  | zero =>
    intro N i a b hi i0 hN ha
    obtain ⟨m, rfl⟩ : ∃ m, N = m + 1 := ⟨N - 1, (by first | decide | omega)⟩
    rw [f_M_keyHeard_29, if_pos (by unfold r32; omega), if_pos (by first | decide | omega)]
    exact zR_s
  | succ d ih =>
    intro N i a b hi i0 hN ha
    obtain ⟨m, rfl⟩ : ∃ m, N = m + 1 := ⟨N - 1, (by first | decide | omega)⟩
    rw [f_M_keyHeard_29, if_pos (by unfold r32; omega), if_neg (by first | decide | omega)]
    exact L_kh42 hT h n0 (by first | decide | omega) ha (fun a b ha => ih m (i + 1) a b (by first | decide | omega) (by first | decide | omega) (by first | decide | omega) ha) n.toNat K 0 0 (by first | decide | omega) (by decide) (by first | decide | omega) (by first | decide | omega)
end
theorem L_key {K : Nat} {V s w : Int} {Fc : zF} {Bc : zB} {F F' : zF} {B B' : zB} (hK : 5000 ≤ K) (e : f_M_gather K w F B = some (F' 14 0 62, F', B')) (hG : GA V s Fc Bc F' B') (b0 : 0 ≤ F' 14 0 62 ∧ F' 14 0 62 ≤ 100000000) (hT : TQm B') : ∃ r, f_M_keyHeard K w F B = some (r, F', B') := by
  unfold f_M_keyHeard f_M_keyHeard_17
  rw [e, zb_s]
  refine zR_g (by unfold r32; omega) (zR_i (fun _ => zR_s) (fun n0 => zR_i (fun n1 => ?_) (fun _ => zR_s)))
  refine L_kh29 hK hT (fun j j0 j1 => ?_) (by first | decide | omega) 24 K 0 (-1) (-1) (by first | decide | omega) (by decide) (by first | decide | omega) (by first | decide | omega)
  rcases hG with ⟨g1, g2, g3, g4, g5⟩ | ⟨g1, g2, g3⟩
  · obtain ⟨a1, a2, a3, a4, a5, a6, a7⟩ := g5 j j0 (by first | decide | omega)
    rw [← a5.1, ← a6.1, ← a3.1]
    exact ⟨⟨a5.2, a7.1, a6.2⟩, a3.2⟩
  · omega
/-- the reference's scratch may change -/
theorem IV_s {Km : Nat} {K : zK} {F Fm Fm' : zF} {B Bm Bm' : zB} (h : IV cc Km K F B Fm Bm) (g : ∀ i y k, ¬ (i = 14 ∧ y = 0 ∧ (k ≤ 1 ∨ k = 62 ∨ (100 ≤ k ∧ k ≤ 105))) → Fm' i y k = Fm i y k) (m : ∀ c y k x, ¬ (c = 14 ∧ y = 0 ∧ ((63 ≤ k ∧ k ≤ 69) ∨ k = 98 ∨ k = 99)) → Bm' c y k x = Bm c y k x) : IV cc Km K F B Fm' Bm' := by
  obtain ⟨p, p0, p1, w, w0, w1, hE, hW, hO, h7, hX, hK⟩ := h
  have hT' : IT F B Fm' Bm' := by
    obtain ⟨t1, t2, t3, t4, t5⟩ := hE.1.2.2.2.1
    exact ⟨by rw [g 14 0 3 (by first | decide | omega)]; exact t1, t2, t3, t4, by funext y; rw [← t5]; show Bm' 14 0 2 y % 256 = Bm 14 0 2 y % 256; rw [m 14 0 2 y (by first | decide | omega)]⟩
  refine ⟨p, p0, p1, w, w0, w1, IE_f hE rfl (fun _ _ => rfl) (Int.le_refl _) (fun _ _ _ _ _ _ _ _ => rfl) (fun _ _ _ _ _ _ _ _ _ => rfl) (fun i k => ⟨fun _ => g 13 i k (by first | decide | omega), g 14 0 6 (by first | decide | omega)⟩) ⟨fun i k x _ => m 13 i k x (by first | decide | omega), fun k x hk => m 14 0 k x (by first | decide | omega)⟩ hT', ⟨by rw [g 14 0 71 (by first | decide | omega)]; exact hW.1, hW.2.1, fun j j0 j1 => by rw [m 14 0 70 j (by first | decide | omega)]; exact hW.2.2 j j0 j1⟩, IOp_f hO rfl rfl (fun _ _ => rfl) (fun _ _ _ => rfl) (g 14 0 72 (by first | decide | omega)) (fun k x hk => m 14 0 k x (by first | decide | omega)), h7, fun y y0 y1 => by rw [m 14 0 4 y (by first | decide | omega)]; exact hX y y0 y1, hK⟩
/-- a place: empty, or a kept piece with all that stands -/
theorem slotE {Km : Nat} {K : zK} {F Fm : zF} {B Bm : zB} (h : IV cc Km K F B Fm Bm) {a1 : Int} (h1 : r32 a1) : (∃ q, q < 0 ∧ f_S_pieceAt K 0 a1 F B = some (q, F, B) ∧ f_M_piece Km a1 Fm Bm = some (-1, Fm, Bm)) ∨ ∃ p p0 p1 w w0 w1 q v V, IE cc K Km p p0 p1 w w0 w1 F B Fm Bm ∧ IZ K F B Fm Bm ∧ ((q = p0 ∧ v = w0) ∨ (q = p1 ∧ v = w1)) ∧ PK K V q v F B Fm Bm ∧ MK V v Fm Bm ∧ PD K V q v F B Fm Bm ∧ Fm 13 v 0 = 1 ∧ (0 ≤ v ∧ v < 3) ∧ f_S_pieceAt K 0 a1 F B = some (q, F, B) ∧ f_M_piece Km a1 Fm Bm = some (v, Fm, Bm) ∧ LNk q v Fm Bm ∧ 0 ≤ q := by
  obtain ⟨p, p0, p1, w, w0, w1, hE, hZ⟩ := h
  have hA := hE.1.1
  obtain ⟨n1, n2, n3, n4, n5, n6⟩ := hE.1.2.2.2.2.1
  have hWw := hE.1.2.2.2.2.2.1
  have s0 := hE.1.2.2.2.2.2.2.2.2.2.1
  have s1 := hE.1.2.2.2.2.2.2.2.2.2.2
  have h12 : 0 < K.2 12 := by have := hA.2.2; omega
  by_cases z : a1 < 0 ∨ 2 ≤ a1
  · exact Or.inl ⟨-1, by decide, C_atx h1 z, L_atx h1 z⟩
  · have hl : 0 ≤ a1 ∧ a1 < 2 := by omega
    have go : ∀ q v, B 12 0 3 a1 = q → Bm 14 0 5 a1 = v → 0 ≤ v ∧ v < 3 → ((q = p0 ∧ v = w0) ∨ (q = p1 ∧ v = w1)) → SLD K q v F B Fm Bm → LNk q v Fm Bm → (∃ q, q < 0 ∧ f_S_pieceAt K 0 a1 F B = some (q, F, B) ∧ f_M_piece Km a1 Fm Bm = some (-1, Fm, Bm)) ∨ ∃ p p0 p1 w w0 w1 q v V, IE cc K Km p p0 p1 w w0 w1 F B Fm Bm ∧ IZ K F B Fm Bm ∧ ((q = p0 ∧ v = w0) ∨ (q = p1 ∧ v = w1)) ∧ PK K V q v F B Fm Bm ∧ MK V v Fm Bm ∧ PD K V q v F B Fm Bm ∧ Fm 13 v 0 = 1 ∧ (0 ≤ v ∧ v < 3) ∧ f_S_pieceAt K 0 a1 F B = some (q, F, B) ∧ f_M_piece Km a1 Fm Bm = some (v, Fm, Bm) ∧ LNk q v Fm Bm ∧ 0 ≤ q := fun q v eq ev hv hc hs ln => by
      have x1 := C_at (K := K) (F := F) h12 hl eq
      rcases hs with ⟨q0, m0⟩ | ⟨q0, m0, V, hP, hM, hD⟩
      · have x3 := L_at (Km := Km) (F := Fm) hl ev hv (Or.inl m0)
        rw [if_pos m0] at x3
        exact Or.inl ⟨q, q0, x1, x3⟩
      · have x3 := L_at (Km := Km) (F := Fm) hl ev hv (Or.inr m0)
        rw [if_neg (by first | decide | omega)] at x3
        exact Or.inr ⟨p, p0, p1, w, w0, w1, q, v, V, hE, hZ, hc, hP, hM, hD, m0, hv, x1, x3, ln, q0⟩
    rcases (show a1 = 0 ∨ a1 = 1 by omega) with e | e
    · exact go p0 w0 (by rw [e]; exact n2) (by rw [e]; exact n5) hWw.2.1 (Or.inl ⟨rfl, rfl⟩) (SLD_of s0 hE.2.2.2.1) hE.2.2.2.2.2.2.1
    · exact go p1 w1 (by rw [e]; exact n3) (by rw [e]; exact n6) hWw.2.2.1 (Or.inr ⟨rfl, rfl⟩) (SLD_of s1 hE.2.2.2.2.1) hE.2.2.2.2.2.2.2
end
