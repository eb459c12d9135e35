section
/-! ===== an event made: both sides up to its pitches ===== -/
theorem zcmp_m {a b : Int} : zcmp a b ≤ 0 ↔ a ≤ b := by
  unfold zcmp
  split
  · constructor <;> intro <;> omega
  · split
    · constructor <;> intro <;> omega
    · constructor <;> intro <;> omega
def evF (e len u tf ts br bp mk ld tok : Int) (F : zF) : zF := zup3 (zup3 (zup3 (zup3 (zup3 (zup3 (zup3 (zup3 (zup3 (zup3 F 1 e 1 len) 1 e 2 u) 1 e 3 tf) 1 e 4 ts) 1 e 5 br) 1 e 6 bp) 1 e 7 mk) 1 e 8 ld) 1 e 9 tok) 1 e 10 0
theorem evF_n {e len u tf ts br bp mk ld tok : Int} {F : zF} {c k : Nat} {y : Int} (h : ¬ (c = 1 ∧ y = e ∧ 1 ≤ k ∧ k ≤ 10)) : evF e len u tf ts br bp mk ld tok F c y k = F c y k := by
  unfold evF
  rw [zup3_v, if_neg (by first | decide | omega), zup3_v, if_neg (by first | decide | omega), zup3_v, if_neg (by first | decide | omega), zup3_v, if_neg (by first | decide | omega), zup3_v, if_neg (by first | decide | omega), zup3_v, if_neg (by first | decide | omega), zup3_v, if_neg (by first | decide | omega), zup3_v, if_neg (by first | decide | omega), zup3_v, if_neg (by first | decide | omega), zup3_v, if_neg (by first | decide | omega)]
theorem evF_v {e len u tf ts br bp mk ld tok : Int} {F : zF} : evF e len u tf ts br bp mk ld tok F 1 e 1 = len ∧ evF e len u tf ts br bp mk ld tok F 1 e 2 = u ∧ evF e len u tf ts br bp mk ld tok F 1 e 3 = tf ∧ evF e len u tf ts br bp mk ld tok F 1 e 4 = ts ∧ evF e len u tf ts br bp mk ld tok F 1 e 5 = br ∧ evF e len u tf ts br bp mk ld tok F 1 e 6 = bp ∧ evF e len u tf ts br bp mk ld tok F 1 e 7 = mk ∧ evF e len u tf ts br bp mk ld tok F 1 e 8 = ld ∧ evF e len u tf ts br bp mk ld tok F 1 e 9 = tok ∧ evF e len u tf ts br bp mk ld tok F 1 e 10 = 0 := by
  simp [evF, zup3_v]
theorem C35a {K : zK} {F : zF} {B : zB} {x pl : Int} (h11 : 0 < K.2 11) (hwr : F 11 0 2 = 0) : f_Walker_makeEvent_35 K pl 0 x (-1) F B = some (0, zup3 F 11 0 2 (12 + 16 * pl), B) := by
  unfold f_Walker_makeEvent_35 f_Walker_makeEvent_49
  rw [if_pos (by decide), if_pos rfl, if_pos ⟨Int.le_refl _, h11⟩, C_wref h11 hwr, zb_s]
theorem C35b {K : zK} {F : zF} {B : zB} {x pl u q m b tf ts z e come far : Int} (h11 : 0 < K.2 11) (h3 : 0 < K.2 3) (h4 : 0 ≤ q ∧ q < K.2 4) (hx : 0 ≤ x ∧ x < 3000) (h0 : F 11 0 0 = 0) (h1 : F 11 0 1 = q) (hwr : F 11 0 2 = 0) (hm : F 4 q 6 = m) (m0 : 0 ≤ m ∧ m ≤ 200) (hb : F 11 0 6 = b) (b0 : 0 ≤ b ∧ b ≤ 100) (htf : F 11 0 9 = tf) (tf0 : 1 ≤ tf ∧ tf ≤ 81) (hts : F 11 0 10 = ts) (ts0 : 1 ≤ ts ∧ ts ≤ 81) (hz : 6350400 = tf * z) (z0 : 1 ≤ z ∧ z ≤ 6350400) (u0 : 1 ≤ u ∧ u ≤ 1024) (hc : F 11 0 11 = come) (c0 : 0 ≤ come ∧ come ≤ 1000000000000) (hf : F 11 0 12 = far) (f0 : 0 ≤ far ∧ far ≤ 1000000000000) (he : m < 200 → B 4 q 5 m = e ∧ 0 ≤ e ∧ e < K.2 1) : f_Walker_makeEvent_35 K pl 0 x u F B = if 200 ≤ m ∨ far < come + z * u * ts then some (0, zup3 F 11 0 2 (8 + 16 * pl), B) else f_Walker_makeEvent_228 K K.1 0 e (z * u * ts) 0 x (evF e (z * u * ts) u tf ts (if b = 0 then 0 else F 11 0 7) (F 11 0 8) (B 3 0 7 x) (F 11 0 4) pl F) B := by
  have e1 : zldv (6350400 * u) tf = z * u := by
    rw [zldv_e (by first | decide | omega) (by first | decide | omega) (by first | decide | omega) (by first | decide | omega), hz, show tf * z * u = tf * (z * u) by ac_rfl, Int.mul_ediv_cancel_left _ (by first | decide | omega)]
  have zu : 1 ≤ z * u := ml_1 z0.1 u0.1
  have zu2 : z * u ≤ 6350400 * 1024 := Int.mul_le_mul z0.2 u0.2 (by first | decide | omega) (by decide)
  have zt : 1 ≤ z * u * ts := ml_1 zu ts0.1
  have zt2 : z * u * ts ≤ 6350400 * 1024 * 81 := Int.mul_le_mul zu2 ts0.2 (by first | decide | omega) (by decide)
  have n8 : f_Walker_makeEvent_105 K pl 0 F B = some (0, zup3 F 11 0 2 (8 + 16 * pl), B) := by
    unfold f_Walker_makeEvent_105
    rw [if_pos ⟨Int.le_refl _, h11⟩, C_wref h11 hwr, zb_s]
  unfold f_Walker_makeEvent_35
  rw [if_pos (by unfold r32; omega), if_neg (by first | decide | omega), if_pos ⟨Int.le_refl _, h11⟩, h1, htf, hts, hm, hb, hc, hf, e1, if_pos (by unfold r32; omega), if_pos tf0.1, if_pos (lI_n0 (by first | decide | omega) (by unfold r64; omega)), if_pos (by unfold r32; omega), if_pos h4, if_pos (by unfold r32; omega)]
  by_cases a : 200 ≤ m
  · rw [if_pos a, if_pos (Or.inl a), n8]
  obtain ⟨he1, he2⟩ := he (by first | decide | omega)
  rw [if_neg a, if_pos (by unfold r64; omega), if_pos (by unfold r64; omega)]
  by_cases c : zcmp (come + z * u * ts) far ≤ 0
  case neg =>
    rw [if_neg c, n8, if_pos (Or.inr (by have := mt zcmp_m.mpr c; omega))]
  have hR : ¬ (200 ≤ m ∨ far < come + z * u * ts) := by have := zcmp_m.mp c; omega
  rw [if_pos c, if_neg hR, if_pos (by first | decide | omega), he1, if_pos he2, if_pos (by unfold r32; omega)]
  have fin : ∀ br, f_Walker_makeEvent_178 K e (z * u * ts) pl 0 x e br (zup3 (zup3 (zup3 (zup3 F 1 e 1 (z * u * ts)) 1 e 2 u) 1 e 3 tf) 1 e 4 ts) B = f_Walker_makeEvent_228 K K.1 0 e (z * u * ts) 0 x (evF e (z * u * ts) u tf ts br (F 11 0 8) (B 3 0 7 x) (F 11 0 4) pl F) B := by
    intro br
    have g : ∀ k, (zup3 (zup3 (zup3 (zup3 F 1 e 1 (z * u * ts)) 1 e 2 u) 1 e 3 tf) 1 e 4 ts) 11 0 k = F 11 0 k := fun k => by
      rw [zup3_v, if_neg (by first | decide | omega), zup3_v, if_neg (by first | decide | omega), zup3_v, if_neg (by first | decide | omega), zup3_v, if_neg (by first | decide | omega)]
    unfold f_Walker_makeEvent_178 evF
    rw [if_pos he2, if_pos ⟨Int.le_refl _, h11⟩, if_pos he2, g, g, g, h0, if_pos ⟨Int.le_refl _, h3⟩, if_pos hx]
  by_cases d : b = 0
  · rw [if_pos d, if_pos d, fin]
  · rw [if_neg d, if_neg d, fin]
theorem fr_n {F : zF} {p : Int} {c k : Nat} {y : Int} (h : ¬ (c = 14 ∧ y = 0 ∧ k ≤ 1)) : fr F p c y k = F c y k := by
  unfold fr
  rw [zup3_v, if_neg (by first | decide | omega), zup3_v, if_neg (by first | decide | omega)]
theorem fr_0 {F : zF} {p : Int} : fr F p 14 0 0 = nu p := by
  unfold fr
  rw [zup3_v, if_neg (by decide), zup3_v, if_pos (by decide)]
theorem fr_1 {F : zF} {p : Int} : fr F p 14 0 1 = de p := by
  unfold fr
  rw [zup3_v, if_pos (by decide)]
theorem bpL {K : Nat} {F : zF} {B : zB} {a e : Int} (h2 : ∀ k, a ≤ k → k < e → B 14 0 7 k = 2) (hn : ¬ B 14 0 7 e = 2) (hr : r32 (B 14 0 7 e)) (a0 : 0 ≤ a) (e1 : e < 3001) : ∀ (j n : Nat) {l : Int}, a ≤ l → l ≤ e → (e - l).toNat = j → j < n → f_M_behindPitches_4 K n l F B = some (e, F, B) := by
  intro j
  induction j with
  | zero =>
    intro n l h0 h1 hj hn'
    obtain ⟨n, rfl⟩ : ∃ m, n = m + 1 := ⟨n - 1, (by first | decide | omega)⟩
    have hl : l = e := by omega
    subst hl
    rw [f_M_behindPitches_4, if_pos (by first | decide | omega), if_pos hr, if_neg hn]
  | succ j ih =>
    intro n l h0 h1 hj hn'
    obtain ⟨n, rfl⟩ : ∃ m, n = m + 1 := ⟨n - 1, (by first | decide | omega)⟩
    have e2 := h2 l h0 (by first | decide | omega)
    rw [f_M_behindPitches_4, if_pos (by first | decide | omega), e2, if_pos (by decide), if_pos rfl, ih n (by first | decide | omega) (by first | decide | omega) (by first | decide | omega) (by first | decide | omega)]
theorem L_evE {K : Nat} {F : zF} {B : zB} {i u b tf ts z come far m v w s0 cnt : Int} (hK : 812851200 < K) (hi : 0 ≤ i ∧ i < 3001) (h17 : F 14 0 17 = 0) (hU : f_M_valueOf K i F B = some (u, F, B)) (u0 : u = -1 ∨ (1 ≤ u ∧ u ≤ 1024)) (hb : F 14 0 48 = b) (b0 : 0 ≤ b ∧ b ≤ 100) (hT : TPL b tf ts B) (hz : b ≤ 2 → 6350400 = tf * z ∧ 1 ≤ z ∧ z ≤ 6350400) (c38 : F 14 0 38 = nu come) (c39 : F 14 0 39 = de come) (c0 : 0 ≤ come ∧ come ≤ 1000000000000) (hm : F 14 0 36 = m) (m0 : 0 ≤ m ∧ m ≤ 200) (hv : F 14 0 35 = v) (v0 : 0 ≤ v ∧ v < 4) (hw : F 14 0 6 = w) (w0 : 0 ≤ w ∧ w < 3) (r4 : r32 (F 13 w 4)) (r5 : r32 (F 13 w 5)) (hB : FR (100 * F 13 w 4) (F 13 w 5) far) (f0 : far ≤ 1000000000000) (hk : (B 14 0 7 i = 2 ∧ s0 = i ∧ cnt = 1) ∨ (B 14 0 7 i = 4 ∧ s0 = i + 1 ∧ cnt = -1) ∨ (B 14 0 7 i = 5 ∧ s0 = i + 1 ∧ (0 ≤ cnt ∧ s0 + cnt ≤ 3000) ∧ (∀ k, s0 ≤ k → k < s0 + cnt → B 14 0 7 k = 2) ∧ ¬ B 14 0 7 (s0 + cnt) = 2 ∧ r32 (B 14 0 7 (s0 + cnt)))) : f_M_event_0 K i F B = if 2 < b ∨ u = -1 then some (0, flM F B 12 i, B) else if 200 ≤ m ∨ far < come + z * u * ts then some (0, flM (fr (fr F (z * u * ts)) (come + z * u * ts)) B 8 i, B) else f_M_event_0_249 K K s0 (s0 + cnt) (1000 * v + m) (de (z * u * ts)) (nu (z * u * ts)) tf ts i (fr (fr F (z * u * ts)) (come + z * u * ts)) (zup4 B 13 w 21 (1000 * v + m) 0) := by
  have n12 : f_M_event_0_18 K i F B = some (0, flM F B 12 i, B) := by
    unfold f_M_event_0_18
    rw [L_failAt h17 hi, zb_s]
  unfold f_M_event_0
  rw [hU, zb_s, if_pos (by unfold r32; omega)]
  by_cases un : u < 0
  · rw [if_pos un, n12, if_pos (Or.inr (by first | decide | omega))]
  rw [if_neg un, hb, if_pos (by unfold r32; omega)]
  by_cases b2 : b ≤ 2
  case neg => rw [if_neg b2, n12, if_pos (Or.inl (by first | decide | omega))]
  have u1 : 1 ≤ u ∧ u ≤ 1024 := by omega
  obtain ⟨hz, z0⟩ := hz b2
  obtain ⟨mm, e34⟩ := L34w (K := K) (n := K) (F := F) (B := B) (u := u) (i := i) hb b0.1 b2 hT (by first | decide | omega)
  obtain ⟨_, t1, t2, _⟩ := hT
  have zu : 1 ≤ z * u := ml_1 z0.1 u1.1
  have zu2 : z * u ≤ 6350400 * 1024 := Int.mul_le_mul z0.2 u1.2 (by first | decide | omega) (by decide)
  have zt : 1 ≤ z * u * ts := ml_1 zu t2.1
  have zt2 : z * u * ts ≤ 6350400 * 1024 * 81 := Int.mul_le_mul zu2 t2.2 (by first | decide | omega) (by decide)
  have wz : WW = 128 * tf * z := by
    rw [show 128 * tf * z = 128 * (tf * z) by ac_rfl, ← hz]
    rfl
  have fL : FR (u * ts) (128 * tf) (z * u * ts) := ⟨(by first | decide | omega), ⟨z, wz⟩, Int.mul_nonneg (by first | decide | omega) (by first | decide | omega), by rw [wz]; ac_rfl⟩
  rw [if_pos b2, e34, if_neg (by first | decide | omega), f_M_event_0_34, hb, if_pos (by unfold r32; omega), if_pos (by unfold r32; omega), if_pos (Int.le_refl _), if_pos (by unfold r32; omega), if_pos (by unfold r32; omega), if_pos (by unfold r32; omega), L_isR hK fL (by first | decide | omega), zb_s, fr_0, fr_1, fr_n (by first | decide | omega), fr_n (by first | decide | omega), c38, c39, L_plusR hK (FR_r c0.1) (FR_r (by first | decide | omega)) (by first | decide | omega), zb_s]
  generalize hG : fr (fr F (z * u * ts)) (come + z * u * ts) = G
  have g : ∀ (c : Nat) (y : Int) (k : Nat), ¬ (c = 14 ∧ y = 0 ∧ k ≤ 1) → G c y k = F c y k := fun c y k n => by rw [← hG, fr_n n, fr_n n]
  have g0 : G 14 0 0 = nu (come + z * u * ts) := by rw [← hG, fr_0]
  have g1 : G 14 0 1 = de (come + z * u * ts) := by rw [← hG, fr_1]
  have n8 : f_M_event_0_159 K i G B = some (0, flM G B 8 i, B) := by
    unfold f_M_event_0_159
    rw [L_failAt (by rw [g 14 0 17 (by first | decide | omega)]; exact h17) hi, zb_s]
  rw [g 14 0 36 (by first | decide | omega), hm, if_pos (by unfold r32; omega)]
  by_cases a : m = 200
  · rw [if_pos a, n8, if_pos (Or.inl (by first | decide | omega))]
  rw [if_neg a, g 14 0 6 (by first | decide | omega), hw, if_pos w0, g 13 w 4 (by first | decide | omega), g 13 w 5 (by first | decide | omega), if_pos r4, if_pos r5, g0, g1, L_cmpR hK (FR_r (by first | decide | omega)) hB (by first | decide | omega) (by first | decide | omega), zb_s]
  have rc : r32 (if come + z * u * ts < far then -1 else if come + z * u * ts = far then 0 else 1) := by
    split
    · decide
    · split <;> decide
  rw [if_pos rc]
  by_cases c : come + z * u * ts ≤ far
  case neg =>
    rw [if_neg (by rw [if_neg (by first | decide | omega), if_neg (by first | decide | omega)]; decide), n8, if_pos (Or.inr (by first | decide | omega))]
  have rl : (if come + z * u * ts < far then (-1 : Int) else if come + z * u * ts = far then 0 else 1) ≤ 0 := by
    by_cases d : come + z * u * ts < far
    · rw [if_pos d]; decide
    · rw [if_neg d, if_pos (by first | decide | omega)]; decide
  have hR : ¬ (200 ≤ m ∨ far < come + z * u * ts) := by omega
  rw [if_pos rl, if_neg hR, g 14 0 6 (by first | decide | omega), hw, if_pos w0, g 14 0 35 (by first | decide | omega), hv, g 14 0 36 (by first | decide | omega), hm, if_pos (by first | decide | omega), if_pos hi]
  generalize hC : zup4 B 13 w 21 (1000 * v + m) 0 = C
  have e7 : ∀ k, C 14 0 7 k = B 14 0 7 k := fun k => by rw [← hC, zup4_v, if_neg (by first | decide | omega)]
  rw [e7]
  rcases hk with ⟨k1, k2, k3⟩ | ⟨k1, k2, k3⟩ | ⟨k1, k2, k3, k4, k5, k6⟩
  · rw [k1, if_pos (by decide), if_pos rfl, f_M_event_0_228, if_pos hi, e7, k1, if_pos (by decide), if_pos rfl, f_M_event_0_247, k2, k3]
  · rw [k1, if_pos (by decide), if_neg (by decide), if_neg (by decide), f_M_event_0_228, if_pos hi, e7, k1, if_pos (by decide), if_neg (by decide), f_M_event_0_247, k2, k3, show i + 1 + -1 = i by omega]
  · rw [k1, if_pos (by decide), if_neg (by decide), if_pos rfl, f_M_behindPitches, ← k2, bpL (a := s0) (e := s0 + cnt) (fun k p q => by rw [e7]; exact k4 k p q) (by rw [e7]; exact k5) (by rw [e7]; exact k6) (by first | decide | omega) (by first | decide | omega) cnt.toNat K (Int.le_refl _) (by first | decide | omega) (by first | decide | omega) (by first | decide | omega), zb_s, f_M_event_0_228, if_pos hi, e7, k1, if_pos (by decide), if_neg (by decide), f_M_event_0_247, ← k2]
end
