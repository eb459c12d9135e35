section
section
/-! ===== the key heard: both sides ===== -/
/-- ticks of the first n sounds whose tone is x -/
noncomputable def tkS (f g : Int → Int) (x : Int) : Nat → Int
  | 0 => 0
  | n + 1 => tkS f g x n + (if f n % 12 = x then g n else 0)
noncomputable def wvK (key i : Int) : Int := if 12 ≤ key then ztv 12 ((i - key) % 12) else ztv 11 ((i - key) % 12)
/-- the weight of a key -/
noncomputable def wtS (f g : Int → Int) (key : Int) : Nat → Int
  | 0 => 0
  | n + 1 => wtS f g key n + g n * wvK key (f n)
theorem wv_m {key t : Int} : wvK key (t % 12) = wvK key t := by
  unfold wvK
  rw [show (t % 12 - key) % 12 = (t - key) % 12 by omega]
theorem wv_b {key t : Int} : 0 ≤ wvK key t ∧ wvK key t ≤ 1000 := by
  have k := zt11_v (x := (t - key) % 12) (by omega) (by omega)
  unfold wvK
  split
  · exact k.2
  · exact k.1
theorem smR_ad {f g : Int → Int} : ∀ (n : Nat) (a : Int), smR (fun i => f i + g i) a n = smR f a n + smR g a n := by
  intro n
  induction n with
  | zero => intro a; rw [smR, smR, smR]; rfl
  | succ n ih =>
    intro a
    rw [smR, smR, smR, ih (a + 1)]
    show f a + g a + (smR f (a + 1) n + smR g (a + 1) n) = f a + smR f (a + 1) n + (g a + smR g (a + 1) n)
    omega
theorem smR_12 {f : Int → Int} : smR f 0 12 = f 0 + (f 1 + (f 2 + (f 3 + (f 4 + (f 5 + (f 6 + (f 7 + (f 8 + (f 9 + (f 10 + (f 11 + 0))))))))))) := rfl
theorem smR_dl {h : Int → Int} {a x : Int} (x0 : 0 ≤ x) (x1 : x < 12) : smR (fun i => (if x = i then a else 0) * h i) 0 12 = a * h x := by
  have o : x = 0 ∨ x = 1 ∨ x = 2 ∨ x = 3 ∨ x = 4 ∨ x = 5 ∨ x = 6 ∨ x = 7 ∨ x = 8 ∨ x = 9 ∨ x = 10 ∨ x = 11 := by omega
  rw [smR_12]
  rcases o with rfl | rfl | rfl | rfl | rfl | rfl | rfl | rfl | rfl | rfl | rfl | rfl <;> simp
theorem wt_x {f g : Int → Int} {key : Int} : ∀ n : Nat, smR (fun i => tkS f g i n * wvK key i) 0 12 = wtS f g key n := by
  intro n
  induction n with
  | zero => rw [smR_12]; simp [tkS, wtS]
  | succ n ih =>
    have e : (fun i => tkS f g i (n + 1) * wvK key i) = fun i => tkS f g i n * wvK key i + (if f n % 12 = i then g n else 0) * wvK key i := by
      funext i
      rw [tkS, Int.add_mul]
    rw [e, smR_ad, ih, smR_dl (Int.emod_nonneg _ (by decide)) (Int.emod_lt_of_pos _ (by decide)), wtS, wv_m]
theorem wtS_c {f g f' g' : Int → Int} {key : Int} : ∀ n : Nat, (∀ j, 0 ≤ j → j < (n : Int) → f' j = f j ∧ g' j = g j) → wtS f' g' key n = wtS f g key n := by
  intro n
  induction n with
  | zero => intro _; rfl
  | succ n ih =>
    intro h
    have k := h n (by omega) (by omega)
    rw [wtS, wtS, ih (fun j j0 j1 => h j j0 (by omega)), k.1, k.2]
theorem wtS_b {f g : Int → Int} {key : Int} : ∀ n : Nat, (∀ j, 0 ≤ j → j < (n : Int) → 0 ≤ g j ∧ g j ≤ 500000) → 0 ≤ wtS f g key n ∧ wtS f g key n ≤ 500000000 * n := by
  intro n
  induction n with
  | zero => intro _; rw [wtS]; omega
  | succ n ih =>
    intro h
    have k := h n (by omega) (by omega)
    have i := ih (fun j j0 j1 => h j j0 (by omega))
    have w := wv_b (key := key) (t := f n)
    have m1 : 0 ≤ g n * wvK key (f n) := Int.mul_nonneg k.1 w.1
    have m2 : g n * wvK key (f n) ≤ 500000 * 1000 := Int.mul_le_mul k.2 w.2 w.1 (by decide)
    rw [wtS]
    omega
theorem fmX : ∀ x : Fin 36, (0 ≤ zxor ((x.val : Int) - 24) 12 → zrm ((x.val : Int) - 24) 12 = ((x.val : Int) - 24) % 12) ∧ (¬ 0 ≤ zxor ((x.val : Int) - 24) 12 → zrm ((x.val : Int) - 24) 12 = 0 → ((x.val : Int) - 24) % 12 = 0) ∧ (¬ 0 ≤ zxor ((x.val : Int) - 24) 12 → ¬ zrm ((x.val : Int) - 24) 12 = 0 → zrm ((x.val : Int) - 24) 12 + 12 = ((x.val : Int) - 24) % 12) := by decide +kernel
theorem C_fmX {K : zK} {a : Int} {F : zF} {B : zB} (h : -24 ≤ a ∧ a ≤ 11) : f_Math_floorMod K a 12 F B = some (a % 12, F, B) := by
  have k := fmX ⟨(a + 24).toNat, by omega⟩
  rw [show (((⟨(a + 24).toNat, by omega⟩ : Fin 36).val : Nat) : Int) - 24 = a by show (((a + 24).toNat : Nat) : Int) - 24 = a; omega] at k
  unfold f_Math_floorMod f_Math_floorMod_18
  rw [if_pos (iI_n0 (by decide) (by decide)), if_pos (show r32 (zxor a 12) from toI_r _)]
  by_cases c : 0 ≤ zxor a 12
  · rw [if_pos c, k.1 c]
  · rw [if_neg c, if_pos (zrm_R _ _)]
    by_cases c1 : zrm a 12 = 0
    · rw [if_pos c1, c1, k.2.1 c c1]
    · rw [if_neg c1, k.2.2 c c1]
section
variable {K : zK} {s c : Int} {F : zF}
theorem C_kh112X {B : zB} {l4 l2 l1 S : Int} {rec : Int → Int → Int → Int → zF → zB → zO} (hs : 0 ≤ s ∧ s < K.2 5) (h4 : 0 ≤ l4 ∧ l4 < 24) (h2 : r64 l2) (hS : r64 S) : ∀ (d N : Nat) (i v : Int), i + d = 12 → 0 ≤ i → d < N → v + smR (fun i => B 5 s 10 i * wvK l4 i) i d = S → f_Performance_keyHeard_112 rec K N i v l4 l2 l1 s F B = if S ≤ l2 then rec (l4 + 1) l2 l1 s F B else rec (l4 + 1) S l4 s F B := by
  intro d
  induction d with
  | zero =>
    intro N i v hi i0 hN hv
    obtain ⟨m, rfl⟩ : ∃ m, N = m + 1 := ⟨N - 1, by omega⟩
    rw [smR, Int.add_zero] at hv
    rw [f_Performance_keyHeard_112, if_pos (by unfold r32; omega), if_pos (by omega), hv, if_pos hS, if_pos h2]
    unfold f_Performance_keyHeard_186
    by_cases z : S ≤ l2
    · rw [if_pos z, if_pos (zcmp_m.mpr z)]
    · rw [if_neg z, if_neg (fun q => z (zcmp_m.mp q))]
  | succ d ih =>
    intro N i v hi i0 hN hv
    obtain ⟨m, rfl⟩ : ∃ m, N = m + 1 := ⟨N - 1, by omega⟩
    have z := zt11_v (x := (i - l4) % 12) (by omega) (by omega)
    rw [smR] at hv
    have hv' : v + B 5 s 10 i * wvK l4 i + smR (fun i => B 5 s 10 i * wvK l4 i) (i + 1) d = S := by rw [← hv]; show _ = v + (B 5 s 10 i * wvK l4 i + _); omega
    have nx := ih m (i + 1) _ (by omega) (by omega) (by omega) hv'
    rw [f_Performance_keyHeard_112, if_pos (by unfold r32; omega), if_neg (by omega), C_fmX (by omega), zb_s, zt11_f.1, zt11_f.2.1, if_pos hs, if_pos (by omega), if_pos (by unfold r32; omega)]
    unfold f_Performance_keyHeard_162
    by_cases q : 12 ≤ l4
    · have e : wvK l4 i = ztv 12 ((i - l4) % 12) := by unfold wvK; rw [if_pos q]
      rw [e] at nx
      rw [if_pos q, if_pos (by omega), if_pos (by unfold r32; omega)]
      exact nx
    · have e : wvK l4 i = ztv 11 ((i - l4) % 12) := by unfold wvK; rw [if_neg q]
      rw [e] at nx
      rw [if_neg q, if_pos (by omega), if_pos (by unfold r32; omega)]
      exact nx
theorem C_kh39X {B0 : zB} (hK : 60000 ≤ K.1) (hs : 0 ≤ s ∧ s < K.2 5) (hc : F 5 s 0 = c ∧ 0 ≤ c ∧ c ≤ 2000) (hS : SB s c B0) : ∀ (d N i : Nat) (B : zB), (i : Int) + d = c → d < N → khB s B0 B → (∀ x, 0 ≤ x → x < 12 → B 5 s 10 x = tkS (fun j => B0 5 s 342 j) (fun j => B0 5 s 345 j - B0 5 s 344 j) x i) → ∃ B', f_Performance_keyHeard_39 K N i s F B = f_Performance_keyHeard_99 K K.1 0 (-1) 0 s F B' ∧ khB s B0 B' ∧ ∀ x, 0 ≤ x → x < 12 → B' 5 s 10 x = tkS (fun j => B0 5 s 342 j) (fun j => B0 5 s 345 j - B0 5 s 344 j) x (i + d) := by
  intro d
  induction d with
  | zero =>
    intro N i B hi hN b hB
    obtain ⟨m, rfl⟩ : ∃ m, N = m + 1 := ⟨N - 1, by omega⟩
    rw [f_Performance_keyHeard_39, if_pos hs, if_pos (by unfold r32; omega), hc.1, if_pos (by unfold r32; omega), if_pos (by omega)]
    exact ⟨B, rfl, b, hB⟩
  | succ d ih =>
    intro N i B hi hN b hB
    obtain ⟨m, rfl⟩ : ∃ m, N = m + 1 := ⟨N - 1, by omega⟩
    obtain ⟨a0, a1, a2, a3, a4, a5, a6⟩ := hS i (by omega) (by omega)
    have e2 : B 5 s 342 i = B0 5 s 342 i := b 5 s 342 i (by omega)
    have e4 : B 5 s 344 i = B0 5 s 344 i := b 5 s 344 i (by omega)
    have e5 : B 5 s 345 i = B0 5 s 345 i := b 5 s 345 i (by omega)
    have ez : zrm (B0 5 s 342 i) 12 = B0 5 s 342 i % 12 := zrm_e a2.1 (by unfold r32; omega) (by decide) (by decide)
    rw [f_Performance_keyHeard_39, if_pos hs, if_pos (by unfold r32; omega), hc.1, if_pos (by unfold r32; omega), if_neg (by omega), if_pos (by omega), e2, e4, e5, ez, if_pos (by omega), if_pos (by unfold r32; omega)]
    obtain ⟨B', g1, g2, g3⟩ := ih m (i + 1) (zup4 B 5 s 10 (B0 5 s 342 i % 12) (B 5 s 10 (B0 5 s 342 i % 12) + (B0 5 s 345 i - B0 5 s 344 i))) (by omega) (by omega) (khB_t b khB_w) (fun x x0 x1 => by
      rw [tkS, zup4_v]
      by_cases z : B0 5 s 342 i % 12 = x
      · rw [if_pos ⟨rfl, rfl, rfl, z.symm⟩, if_pos z, z, hB x x0 x1]
      · rw [if_neg (fun q => z q.2.2.2.symm), if_neg z, Int.add_zero]
        exact hB x x0 x1)
    rw [show (((i + 1 : Nat) : Int)) = (i : Int) + 1 by omega] at g1
    rw [show i + 1 + d = i + (d + 1) by omega] at g3
    exact ⟨B', g1, g2, g3⟩
end
theorem L_kh42X {K : Nat} {F : zF} {B : zB} {n l6 l5 l3 : Int} {rec : Int → Int → Int → Int → zF → zB → zO} (hT : TQm B) (h : GHs n B) (n0 : 0 ≤ n ∧ n ≤ 2000) (h6 : 0 ≤ l6 ∧ l6 < 24) (h3 : r64 l3) : ∀ (d N i : Nat) (v : Int), (i : Int) + d = n → d < N → v = wtS (fun j => B 14 0 65 j) (fun j => B 14 0 64 j - B 14 0 63 j) l6 i → f_M_keyHeard_42 rec K N i v l6 l5 l3 n F B = if wtS (fun j => B 14 0 65 j) (fun j => B 14 0 64 j - B 14 0 63 j) l6 (i + d) ≤ l3 then rec (l6 + 1) l5 l3 n F B else rec (l6 + 1) l6 (wtS (fun j => B 14 0 65 j) (fun j => B 14 0 64 j - B 14 0 63 j) l6 (i + d)) n F B := by
  intro d
  induction d with
  | zero =>
    intro N i v hi hN hv
    obtain ⟨m, rfl⟩ : ∃ m, N = m + 1 := ⟨N - 1, by omega⟩
    have wb := wtS_b (f := fun j => B 14 0 65 j) (g := fun j => B 14 0 64 j - B 14 0 63 j) (key := l6) i (fun j j0 j1 => by
      have := h j j0 (by omega)
      show 0 ≤ B 14 0 64 j - B 14 0 63 j ∧ B 14 0 64 j - B 14 0 63 j ≤ 500000
      omega)
    rw [← hv] at wb
    show f_M_keyHeard_42 rec K (m + 1) i v l6 l5 l3 n F B = if wtS (fun j => B 14 0 65 j) (fun j => B 14 0 64 j - B 14 0 63 j) l6 i ≤ l3 then rec (l6 + 1) l5 l3 n F B else rec (l6 + 1) l6 (wtS (fun j => B 14 0 65 j) (fun j => B 14 0 64 j - B 14 0 63 j) l6 i) n F B
    rw [← hv, f_M_keyHeard_42, if_pos (by unfold r32; omega), if_pos (by unfold r32; omega), if_pos (by omega), if_pos (show r64 v by unfold r64; omega), if_pos h3]
    unfold f_M_keyHeard_126
    by_cases z : v ≤ l3
    · rw [if_pos z, if_neg (fun q => by have := zcmp_m.mpr z; omega)]
    · rw [if_neg z, if_pos (by
        by_cases q : 0 < zcmp v l3
        · exact q
        · exact absurd (zcmp_m.mp (by omega)) z)]
  | succ d ih =>
    intro N i v hi hN hv
    obtain ⟨m, rfl⟩ : ∃ m, N = m + 1 := ⟨N - 1, by omega⟩
    obtain ⟨k1, k2⟩ := h i (by omega) (by omega)
    have ez : zrm l6 12 = l6 % 12 := zrm_e h6.1 (by unfold r32; omega) (by decide) (by decide)
    have ed : zdv l6 12 = l6 / 12 := zdv_e h6.1 (by unfold r32; omega) (by decide) (by decide)
    have t := hT.2.2 (l6 / 12 * 12 + (B 14 0 65 i - l6 % 12) % 12) (by omega) (by omega)
    have we : wtK (l6 / 12 * 12 + (B 14 0 65 i - l6 % 12) % 12) = wvK l6 (B 14 0 65 i) := by
      unfold wtK wvK
      by_cases q : 12 ≤ l6
      · rw [if_neg (by omega), if_pos q, show l6 / 12 * 12 + (B 14 0 65 i - l6 % 12) % 12 - 12 = (B 14 0 65 i - l6) % 12 by omega]
      · rw [if_pos (by omega), if_neg q, show l6 / 12 * 12 + (B 14 0 65 i - l6 % 12) % 12 = (B 14 0 65 i - l6) % 12 by omega]
    rw [f_M_keyHeard_42, ez, ed, if_pos (by unfold r32; omega), if_pos (by unfold r32; omega), if_neg (by omega), if_pos (by omega), if_pos (by unfold r32; omega), L_mod (by unfold r32; omega) (by decide) (by decide), zb_s, if_pos (by omega), if_pos (by unfold r32; omega), t.2, we]
    have := ih m (i + 1) (v + (B 14 0 64 i - B 14 0 63 i) * wvK l6 (B 14 0 65 i)) (by omega) (by omega) (by rw [wtS, hv])
    rw [show i + 1 + d = i + (d + 1) by omega, show (((i + 1 : Nat) : Int)) = (i : Int) + 1 by omega] at this
    exact this
/-- the best key, both sides -/
theorem P_best {K : zK} {Km : Nat} {s n : Int} {S : Int → Int} {F : zF} {B : zB} {Fm : zF} {Bm : zB} (hK : 60000 ≤ K.1) (hKm : 5000 ≤ Km) (n0 : 0 ≤ n ∧ n ≤ 2000) (hS : ∀ k, 0 ≤ S k ∧ S k ≤ 2000000000000) (hc : ∀ (rec : Int → Int → Int → Int → zF → zB → zO) (k a b : Int), 0 ≤ k → k < 24 → r64 a → f_Performance_keyHeard_112 rec K K.1 0 0 k a b s F B = if S k ≤ a then rec (k + 1) a b s F B else rec (k + 1) (S k) k s F B) (hm : ∀ (rec : Int → Int → Int → Int → zF → zB → zO) (k a b : Int), 0 ≤ k → k < 24 → r64 a → f_M_keyHeard_42 rec Km Km 0 0 k b a n Fm Bm = if S k ≤ a then rec (k + 1) b a n Fm Bm else rec (k + 1) k (S k) n Fm Bm) : ∀ (d N N' : Nat) (i a b b' : Int), i + d = 24 → 0 ≤ i → d < N → d < N' → (-1 ≤ a ∧ a ≤ 2000000000000) → (i = 0 → a = -1) → (0 < i → b = b') → ∃ r, f_Performance_keyHeard_99 K N i a b s F B = some (r, F, B) ∧ f_M_keyHeard_29 Km N' i b' a n Fm Bm = some (r, Fm, Bm) := by
  intro d
  induction d with
  | zero =>
    intro N N' i a b b' hi i0 hN hN' ha h0 hb
    obtain ⟨m, rfl⟩ : ∃ m, N = m + 1 := ⟨N - 1, by omega⟩
    obtain ⟨m', rfl⟩ : ∃ m, N' = m + 1 := ⟨N' - 1, by omega⟩
    have ri : r32 i := by unfold r32; omega
    rw [f_Performance_keyHeard_99, f_M_keyHeard_29, if_pos ri, if_pos (show 24 ≤ i by omega), if_pos ri, if_pos (show 24 ≤ i by omega), hb (by omega)]
    exact ⟨b', rfl, rfl⟩
  | succ d ih =>
    intro N N' i a b b' hi i0 hN hN' ha h0 hb
    obtain ⟨m, rfl⟩ : ∃ m, N = m + 1 := ⟨N - 1, by omega⟩
    obtain ⟨m', rfl⟩ : ∃ m, N' = m + 1 := ⟨N' - 1, by omega⟩
    have hs := hS i
    have ri : r32 i := by unfold r32; omega
    rw [f_Performance_keyHeard_99, f_M_keyHeard_29, if_pos ri, if_neg (show ¬ 24 ≤ i by omega), if_pos ri, if_neg (show ¬ 24 ≤ i by omega), hc _ i a b i0 (by omega) (by unfold r64; omega), hm _ i a b' i0 (by omega) (by unfold r64; omega)]
    by_cases z : S i ≤ a
    · have ip : 0 < i := by
        by_cases q : i = 0
        · have := h0 q
          omega
        · omega
      rw [if_pos z, if_pos z]
      exact ih m m' (i + 1) a b b' (by omega) (by omega) (by omega) (by omega) ha (fun q => by omega) (fun _ => hb ip)
    · rw [if_neg z, if_neg z]
      exact ih m m' (i + 1) (S i) i i (by omega) (by omega) (by omega) (by omega) (by omega) (fun q => by omega) (fun _ => rfl)
/-- the key heard of the sounds gathered, both sides -/
theorem P_kyh {K : zK} {Km : Nat} {V s w : Int} {F : zF} {B : zB} {Fm Fm' : zF} {Bm Bm' : zB} (hK : 60000 ≤ K.1) (hKm : 5000 ≤ Km) (hs : 0 ≤ s ∧ s < K.2 5) (e : f_M_gather Km w Fm Bm = some (Fm' 14 0 62, Fm', Bm')) (hG : GA V s F B Fm' Bm') (b0 : 0 ≤ Fm' 14 0 62 ∧ Fm' 14 0 62 ≤ 100000000) (hT : TQm Bm') : ∃ r B', f_Performance_keyHeard K s F B = some (r, F, B') ∧ f_M_keyHeard Km w Fm Bm = some (r, Fm', Bm') := by
  unfold f_Performance_keyHeard f_Performance_keyHeard_14 f_M_keyHeard f_M_keyHeard_17
  rw [e, zb_s, if_pos hs, if_pos (show r32 (Fm' 14 0 62) by unfold r32; omega)]
  rcases hG with ⟨g1, g2, g3, g4, g5⟩ | ⟨g1, g2, g3⟩
  case inr =>
    rw [g1, if_pos (by decide), if_neg (by decide), if_neg (by omega), if_neg (by omega)]
    exact ⟨-1, B, rfl, rfl⟩
  rw [g1, if_pos (by decide), if_pos rfl, if_pos (show r32 (F 5 s 0) by unfold r32; omega), ← g2]
  by_cases z : F 5 s 0 = 0
  · rw [if_pos z, if_pos z]
    exact ⟨-1, B, rfl, rfl⟩
  rw [if_neg z, if_neg z, if_pos g4]
  generalize hn : F 5 s 0 = n at *
  obtain ⟨nn, hnn⟩ : ∃ nn : Nat, (nn : Int) = n := ⟨n.toNat, by omega⟩
  have hSB : SB s n B := fun j j0 j1 => by
    obtain ⟨b1, b2, b3, b4, b5, b6, b7⟩ := g5 j j0 j1
    exact ⟨b1.2, b2.2, b3.2, b4.2, b5.2, b7.1, b6.2⟩
  have hGH : GHs n Bm' := fun j j0 j1 => by
    obtain ⟨a1, a2, a3, a4, a5, a6, a7⟩ := g5 j j0 j1
    rw [← a5.1, ← a6.1, ← a3.1]
    exact ⟨⟨a5.2, a7.1, a6.2⟩, a3.2⟩
  obtain ⟨B1, k1, k2, k3⟩ := C_kh18 (K := K) (F := F) (B0 := B) hs 12 K.1 0 B (by omega) (by decide) (by omega) (fun _ _ _ _ _ => rfl) (fun x x0 x1 => by omega)
  obtain ⟨B2, m1, m2, m3⟩ := C_kh39X (K := K) (F := F) (c := n) (B0 := B) hK hs ⟨hn, by omega, by omega⟩ hSB nn K.1 0 B1 (by omega) (by omega) k2 (fun x x0 x1 => by rw [tkS]; exact k3 x x0 x1)
  rw [Nat.zero_add] at m3
  have gb : ∀ j, 0 ≤ j → j < (nn : Int) → 0 ≤ (fun j => B 5 s 345 j - B 5 s 344 j) j ∧ (fun j => B 5 s 345 j - B 5 s 344 j) j ≤ 500000 := fun j j0 j1 => by
    obtain ⟨a1, a2, a3, a4, a5, a6, a7⟩ := g5 j j0 (by omega)
    show 0 ≤ B 5 s 345 j - B 5 s 344 j ∧ B 5 s 345 j - B 5 s 344 j ≤ 500000
    omega
  have hSb : ∀ k, 0 ≤ wtS (fun j => B 5 s 342 j) (fun j => B 5 s 345 j - B 5 s 344 j) k nn ∧ wtS (fun j => B 5 s 342 j) (fun j => B 5 s 345 j - B 5 s 344 j) k nn ≤ 2000000000000 := fun k => by
    have := wtS_b (f := fun j => B 5 s 342 j) (g := fun j => B 5 s 345 j - B 5 s 344 j) (key := k) nn gb
    omega
  have sm : ∀ k, smR (fun i => B2 5 s 10 i * wvK k i) 0 12 = wtS (fun j => B 5 s 342 j) (fun j => B 5 s 345 j - B 5 s 344 j) k nn := fun k => by
    rw [← wt_x nn]
    exact smR_c 12 0 (fun i i0 i1 => by show B2 5 s 10 i * wvK k i = _ * wvK k i; rw [m3 i i0 (by omega)])
  have wc : ∀ k, wtS (fun j => Bm' 14 0 65 j) (fun j => Bm' 14 0 64 j - Bm' 14 0 63 j) k nn = wtS (fun j => B 5 s 342 j) (fun j => B 5 s 345 j - B 5 s 344 j) k nn := fun k => wtS_c nn (fun j j0 j1 => by
    obtain ⟨a1, a2, a3, a4, a5, a6, a7⟩ := g5 j j0 (by omega)
    exact ⟨a3.1.symm, by show Bm' 14 0 64 j - Bm' 14 0 63 j = B 5 s 345 j - B 5 s 344 j; rw [a5.1, a6.1]⟩)
  obtain ⟨r, q1, q2⟩ := P_best (K := K) (Km := Km) (s := s) (n := n) (S := fun k => wtS (fun j => B 5 s 342 j) (fun j => B 5 s 345 j - B 5 s 344 j) k nn) (F := F) (B := B2) (Fm := Fm') (Bm := Bm') hK hKm (by omega) hSb (fun rec k a b k0 k1' ra => C_kh112X (K := K) (F := F) (S := wtS (fun j => B 5 s 342 j) (fun j => B 5 s 345 j - B 5 s 344 j) k nn) hs ⟨k0, k1'⟩ ra (by have := hSb k; unfold r64; omega) 12 K.1 0 0 (by omega) (by decide) (by omega) (by rw [Int.zero_add]; exact sm k)) (fun rec k a b k0 k1' ra => by
    have t := L_kh42X (K := Km) (F := Fm') (B := Bm') (n := n) (l6 := k) (l5 := b) (l3 := a) (rec := rec) hT hGH (by omega) ⟨k0, k1'⟩ ra nn Km 0 0 (by omega) (by omega) (by rw [wtS])
    rw [Nat.zero_add, wc k] at t
    exact t) 24 K.1 Km 0 (-1) 0 (-1) (by omega) (by decide) (by omega) (by omega) (by omega) (fun _ => rfl) (fun q => by omega)
  have m1' : f_Performance_keyHeard_39 K K.1 0 s F B1 = f_Performance_keyHeard_99 K K.1 0 (-1) 0 s F B2 := m1
  exact ⟨r, B2, by rw [k1, m1']; exact q1, q2⟩
end
end
section
section
/-! ===== the call of look ===== -/
variable {cc : Int}
theorem p_look {Km : Nat} (a1 a2 : Int) (h1 : r32 a1) (h2 : r32 a2) {K : zK} {F Fm : zF} {B Bm : zB} (h : IV cc Km K F B Fm Bm) : ∃ r1 F1 B1 K1 r2 F2 B2, f_S_look K 0 a1 a2 F B = some (r1, F1, B1, K1) ∧ f_M_look Km a1 a2 Fm Bm = some (r2, F2, B2) ∧ IV cc Km K1 F1 B1 F2 B2 := by
  have hK := (IV_k h).1
  have hKm := (IV_k h).2.1
  have h12 := IV_12 h
  have hU := IV_u h
  rcases slotE h h1 with ⟨q, q0, x1, x3⟩ | ⟨p, p0, p1, w, w0, w1, q, v, V, hE, hZ, hc, hP, hM, hD, m0, hv, x1, x3, ln, q0⟩
  · refine ⟨-1, F, B, K, -1, Fm, Bm, ?_, ?_, h⟩
    · unfold f_S_look
      rw [if_pos h12, x1]
      simp only [zbN_s]
      rw [if_pos q0]
    · unfold f_M_look
      rw [x3, zb_s, if_pos (by decide)]
  have hq := hP.1.1
  have o3 := hE.1.2.2.2.2.2.2.2.2.1 q hq.1 hq.2
  have h5 : 0 ≤ K.2 5 := by have := hE.1.1.2.2; omega
  have g9 : 0 ≤ K.2 9 := by have := hE.1.1.2.2; omega
  have h33 : Fm 13 v 3 = 0 ∨ Fm 13 v 3 = 1 := by have := hP.2.1.2.1; omega
  obtain ⟨s, F1, B1, K1, y1, y2, y3, y4, y5, y6, y7, y8, y9, y10, y11⟩ := C_made (by omega) h5 hP hE.2.1 hD
  obtain ⟨Fm', Bm', z1, z2, z3, z4, z5, z6⟩ := SDR_ga (Km := Km) (by omega) y5 hE.2.1
  have hsm : ∀ {B2 : zB}, khB s B1 B2 → IV cc Km K1 F1 B2 Fm Bm := fun kb => IV_sm hE hZ hc hP hM hD m0 hv y2 y3 y4 y5 y6 y7 y8 y9 y10 y11 kb
  have hV1 : IV cc Km K1 F1 B1 Fm Bm := hsm (fun _ _ _ _ _ => rfl)
  obtain ⟨t, F3, B3, K3, e3, st, sz, hq3⟩ := C_stm hK g9 hU (PQs_k h hP) o3.2.2
  have hV3 := IV_st hE hZ hc hP hM m0 ln st sz
  by_cases c9 : a2 = 9
  · -- the key heard
    have hS : F1 5 s 1 = 0 → 0 ≤ F1 5 s 0 ∧ F1 5 s 0 ≤ 2000 ∧ SB s (F1 5 s 0) B1 := fun z => by
      rcases z4 with ⟨g1, g2, g3, g4, g5⟩ | ⟨g1, g2, g3⟩
      · refine ⟨g3, g4, fun j j0 j1 => ?_⟩
        obtain ⟨b1, b2, b3, b4, b5, b6, b7⟩ := g5 j j0 j1
        exact ⟨b1.2, b2.2, b3.2, b4.2, b5.2, b7.1, b6.2⟩
      · omega
    have h51 : F1 5 s 1 = 0 ∨ F1 5 s 1 = 1 := by
      rcases z4 with ⟨g1, _⟩ | ⟨g1, _⟩
      · exact Or.inl g1
      · exact Or.inr g1
    obtain ⟨r, B2, ek, kb⟩ := C_khd (by rw [y2]; exact hK) y3 h51 hS
    obtain ⟨r', el⟩ := L_key (K := Km) (by omega) z1 z4 ⟨z5, z6⟩ (TQm_e hU.2.2.2.2.2.2 (fun k x hk => z3 14 0 k x (by omega)))
    refine ⟨r, F1, B2, K1, r', Fm', Bm', ?_, ?_, IV_s (hsm kb) (fun i y k n => z2 i y k (by omega)) (fun c y k x n => z3 c y k x (by omega))⟩
    · unfold f_S_look f_S_look_139
      rw [if_pos h12, x1]
      simp only [zbN_s]
      rw [if_neg (by omega), if_pos h2, if_neg (by omega), if_neg (by omega), if_neg (by omega), if_neg (by omega), if_neg (by omega), if_neg (by omega), if_neg (by omega), if_neg (by omega), if_neg (by omega), if_pos c9, if_pos hq, y1]
      simp only [zbM_s]
      rw [if_pos y3, ek]
      simp only [zbN_s]
    · unfold f_M_look
      rw [x3, zb_s, if_neg (by omega), if_pos h2, if_neg (by omega), if_neg (by omega), if_neg (by omega), if_neg (by omega), if_neg (by omega), if_neg (by omega), if_neg (by omega), if_neg (by omega), if_neg (by omega), if_pos c9, if_pos hv, el, zb_s]
  have hR : ∃ r, f_M_look Km a1 a2 Fm Bm = some (r, Fm, Bm) := by
    unfold f_M_look f_M_look_111
    rw [x3, zb_s]
    exact zR_i (fun _ => zR_s) (fun _ => zR_g h2 (zR_i (fun _ => zR_g hv zR_s) (fun _ => zR_i (fun _ => zR_g hv zR_s) (fun _ => zR_i (fun _ => zR_g hv zR_s) (fun _ => zR_i (fun _ => zR_g hv (zR_g (by unfold r32; omega) (zR_i (fun _ => zR_s) (fun _ => zR_s)))) (fun _ => zR_i (fun _ => zR_g hv zR_s) (fun _ => zR_i (fun _ => zR_g hv zR_s) (fun _ => zR_i (fun _ => zR_g hv zR_s) (fun _ => zR_i (fun _ => zR_g hv zR_s) (fun _ => zR_i (fun _ => zR_g hv zR_s) (fun _ => zR_i (fun a => absurd a c9) (fun _ => zR_i (fun _ => zR_g hv zR_s) (fun _ => zR_i (fun _ => zR_g hv zR_s) (fun _ => zR_i (fun _ => zR_g hv zR_s) (fun _ => zR_i (fun _ => zR_g hv zR_s) (fun _ => zR_s))))))))))))))))
  obtain ⟨r', eM⟩ := hR
  have d10 := hD.1
  unfold f_S_look f_S_look_123 f_S_look_131 f_S_look_161 f_S_look_173 f_S_look_180 f_S_look_193 f_S_look_201 f_S_look_213 f_S_look_220
  rw [if_pos h12, x1]
  simp only [zbN_s]
  rw [if_neg (by omega), if_pos h2]
  have stay : ∀ r : Int, ∃ r1 F1 B1 K1 r2 F2 B2, some (r, F, B, K) = some (r1, F1, B1, K1) ∧ f_M_look Km a1 a2 Fm Bm = some (r2, F2, B2) ∧ IV cc Km K1 F1 B1 F2 B2 := fun r => ⟨r, F, B, K, r', Fm, Bm, rfl, eM, h⟩
  by_cases c0 : a2 = 0
  · rw [if_pos c0, if_pos hq]; exact stay _
  rw [if_neg c0]
  by_cases c1 : a2 = 1
  · rw [if_pos c1, if_pos hq]; exact stay _
  rw [if_neg c1]
  by_cases c2 : a2 = 2
  · rw [if_pos c2, if_pos hq]; exact stay _
  rw [if_neg c2]
  by_cases c3 : a2 = 3
  · rw [if_pos c3, if_pos hq]; exact stay _
  rw [if_neg c3]
  by_cases c4 : a2 = 4
  · rw [if_pos c4, if_pos hq]; exact stay _
  rw [if_neg c4]
  by_cases c5 : a2 = 5
  · rw [if_pos c5, if_pos hq]; exact stay _
  rw [if_neg c5]
  by_cases c6 : a2 = 6
  · rw [if_pos c6, if_pos hq]; exact stay _
  rw [if_neg c6]
  by_cases c7 : a2 = 7
  · rw [if_pos c7, if_pos hq, e3]
    simp only [zbM_s]
    rw [if_pos st.2.1]
    exact ⟨_, F3, B3, K3, r', Fm, Bm, rfl, eM, hV3⟩
  rw [if_neg c7]
  by_cases c8 : a2 = 8
  · rw [if_pos c8, if_pos hq, e3]
    simp only [zbM_s]
    rw [if_pos st.2.1]
    exact ⟨_, F3, B3, K3, r', Fm, Bm, rfl, eM, hV3⟩
  rw [if_neg c8, if_neg c9]
  by_cases c10 : a2 = 10
  · rw [if_pos c10, if_pos hq]
    by_cases n8 : F 6 q 8 < 0
    · rw [if_pos n8]; exact stay _
    · rw [if_neg n8, if_pos ⟨by omega, o3.1⟩]; exact stay _
  rw [if_neg c10]
  by_cases c11 : a2 = 11
  · rw [if_pos c11, if_pos hq, if_pos (by unfold r32; omega)]
    by_cases z : F 6 q 10 = 0
    · rw [if_pos z]; exact stay _
    · rw [if_neg z, y1]
      simp only [zbM_s]
      rw [if_pos y3]
      exact ⟨_, F1, B1, K1, r', Fm, Bm, rfl, eM, hV1⟩
  rw [if_neg c11]
  by_cases c12 : a2 = 12
  · rw [if_pos c12, if_pos hq, if_pos (by unfold r32; omega)]
    by_cases z : F 6 q 10 = 0
    · rw [if_pos z]; exact stay _
    · rw [if_neg z, y1]
      simp only [zbM_s]
      rw [if_pos y3]
      exact ⟨_, F1, B1, K1, r', Fm, Bm, rfl, eM, hV1⟩
  rw [if_neg c12]
  by_cases c13 : a2 = 13
  · rw [if_pos c13, if_pos hq, if_pos (by unfold r32; omega)]
    by_cases z : F 6 q 10 = 0
    · rw [if_pos z]; exact stay _
    · rw [if_neg z, y1]
      simp only [zbM_s]
      rw [if_pos y3]
      exact ⟨_, F1, B1, K1, r', Fm, Bm, rfl, eM, hV1⟩
  rw [if_neg c13]; exact stay _
end
end
