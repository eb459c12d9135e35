section
section
/-! ===== study: moments and lines, class ===== -/
def SBb (t : Int) (B : zB) : Prop := (∀ j, 0 ≤ B 9 t 1 j ∧ B 9 t 1 j ≤ 1000000000000) ∧ (∀ k j, 280 ≤ k → k ≤ 283 → -1 ≤ B 9 t k j ∧ B 9 t k j ≤ 199) ∧ ∀ j, (-1 ≤ B 9 t 5 j ∧ B 9 t 5 j ≤ 200) ∧ (-1 ≤ B 9 t 6 j ∧ B 9 t 6 j ≤ 200) ∧ (-1 ≤ B 9 t 7 j ∧ B 9 t 7 j ≤ 200) ∧ (-1 ≤ B 9 t 8 j ∧ B 9 t 8 j ≤ 200) ∧ (0 ≤ B 9 t 9 j ∧ B 9 t 9 j ≤ 1) ∧ r32 (B 9 t 10 j)
def stF (t : Int) (F F' : zF) : Prop := ∀ c y k, ¬ (c = 9 ∧ y = t ∧ (k = 0 ∨ k = 2)) → F' c y k = F c y k
def stB (t : Int) (B B' : zB) : Prop := ∀ c y k x, ¬ (c = 9 ∧ y = t) → B' c y k x = B c y k x
theorem stF_r {t : Int} {F : zF} : stF t F F := fun _ _ _ _ => rfl
theorem stB_r {t : Int} {B : zB} : stB t B B := fun _ _ _ _ _ => rfl
theorem stF_t {t : Int} {F F1 F2 : zF} (h : stF t F F1) (h' : stF t F1 F2) : stF t F F2 := fun c y k n => by rw [h' c y k n, h c y k n]
theorem stB_t {t : Int} {B B1 B2 : zB} (h : stB t B B1) (h' : stB t B1 B2) : stB t B B2 := fun c y k x n => by rw [h' c y k x n, h c y k x n]
theorem stF_w {t x : Int} {F : zF} {k : Nat} (hk : k = 0 ∨ k = 2) : stF t F (zup3 F 9 t k x) := fun c y j n => by rw [zup3_v, if_neg (by omega)]
theorem stB_w {t i x : Int} {B : zB} {k : Nat} : stB t B (zup4 B 9 t k i x) := fun c y j z n => by rw [zup4_v, if_neg (by omega)]
theorem up9 {P : Int → Prop} {B : zB} {t i x j : Int} {k r : Nat} (hx : r = k → P x) (h : P (B 9 t r j)) : P (zup4 B 9 t k i x 9 t r j) := by
  rw [zup4_v]
  split
  · rename_i q; exact hx q.2.2.1
  · exact h
theorem SB_w {t i x : Int} {B : zB} {k : Nat} (h : SBb t B) (x1 : k = 1 → 0 ≤ x ∧ x ≤ 1000000000000) (x2 : 280 ≤ k → k ≤ 283 → -1 ≤ x ∧ x ≤ 199) (x5 : k = 5 ∨ k = 6 ∨ k = 7 ∨ k = 8 → -1 ≤ x ∧ x ≤ 200) (x9 : k = 9 → 0 ≤ x ∧ x ≤ 1) (x10 : k = 10 → r32 x) : SBb t (zup4 B 9 t k i x) := by
  obtain ⟨a1, a2, a3⟩ := h
  refine ⟨fun j => up9 (P := fun v => 0 ≤ v ∧ v ≤ 1000000000000) (fun q => x1 q.symm) (a1 j), fun r j r0 r1 => up9 (P := fun v => -1 ≤ v ∧ v ≤ 199) (fun q => x2 (by omega) (by omega)) (a2 r j r0 r1), fun j => ?_⟩
  obtain ⟨b5, b6, b7, b8, b9, b10⟩ := a3 j
  exact ⟨up9 (P := fun v => -1 ≤ v ∧ v ≤ 200) (fun q => x5 (by omega)) b5, up9 (P := fun v => -1 ≤ v ∧ v ≤ 200) (fun q => x5 (by omega)) b6, up9 (P := fun v => -1 ≤ v ∧ v ≤ 200) (fun q => x5 (by omega)) b7, up9 (P := fun v => -1 ≤ v ∧ v ≤ 200) (fun q => x5 (by omega)) b8, up9 (P := fun v => 0 ≤ v ∧ v ≤ 1) (fun q => x9 (by omega)) b9, up9 (P := r32) (fun q => x10 (by omega)) b10⟩
/-- a piece as its study wants it -/
def PQs (K : zK) (V p : Int) (F : zF) (B : zB) : Prop := (0 ≤ p ∧ p < K.2 6) ∧ (F 6 p 1 = V ∧ 1 ≤ V ∧ V ≤ 4) ∧ (-7 ≤ F 6 p 2 ∧ F 6 p 2 ≤ 7) ∧ (F 6 p 3 = 0 ∨ F 6 p 3 = 1) ∧ ∀ u, 0 ≤ u → u < V → ∃ m, PKc K (B 6 p 0 u) m F B
theorem PKs_f {K : zK} {V p t : Int} {F F' : zF} {B B' : zB} (h : PQs K V p F B) (f : stF t F F') (b : stB t B B') : PQs K V p F' B' := by
  have f6 : ∀ k, F' 6 p k = F 6 p k := fun k => f 6 p k (by omega)
  have b6 : ∀ x, B' 6 p 0 x = B 6 p 0 x := fun x => b 6 p 0 x (by omega)
  have f4 : ∀ q k, F' 4 q k = F 4 q k := fun q k => f 4 q k (by omega)
  have b4 : ∀ q k x, B' 4 q k x = B 4 q k x := fun q k x => b 4 q k x (by omega)
  have g1 : ∀ q k, F' 1 q k = F 1 q k := fun q k => f 1 q k (by omega)
  have c1 : ∀ q k x, B' 1 q k x = B 1 q k x := fun q k x => b 1 q k x (by omega)
  unfold PQs PKc EKc at *
  simp only [f6, b6, f4, b4, g1, c1]
  exact h
section
variable {K : zK} {V p t : Int}
theorem C_evO {F : zF} {B : zB} {u j : Int} (h : PQs K V p F B) (ht : 0 ≤ t ∧ t < K.2 9) (hS : SBb t B) (u0 : 0 ≤ u) (u1 : u < V) (hj : 0 ≤ j ∧ j < 800) : ∃ r, f_Study_eventOf K t p u j F B = some (r, F, B) ∧ (r = -1 ∨ (EKc K r F B ∧ 0 ≤ F 1 r 0 ∧ F 1 r 0 ≤ 1000000000000)) := by
  have hV := h.2.1
  obtain ⟨m, q0, q1, q2, q3⟩ := h.2.2.2.2 u u0 u1
  have b := hS.2.1 (280 + u.toNat) j (by omega) (by omega)
  unfold f_Study_eventOf f_Study_eventOf_29 f_Study_eventOf_45
  rw [if_pos ht, if_pos (by omega), if_pos hj, if_pos (by unfold r32; omega)]
  by_cases c : B 9 t (280 + u.toNat) j < 0
  · rw [if_pos c]; exact ⟨-1, rfl, Or.inl rfl⟩
  rw [if_neg c, if_pos h.1, if_pos q0, q1, if_pos (by unfold r32; omega)]
  by_cases c1 : B 9 t (280 + u.toNat) j < m
  · have k := q3 (B 9 t (280 + u.toNat) j) (by omega) c1
    rw [if_pos c1, if_pos (by omega)]; exact ⟨_, rfl, Or.inr ⟨k.1, k.2.1⟩⟩
  · rw [if_neg c1]; exact ⟨-1, rfl, Or.inl rfl⟩
theorem C_snp {F : zF} {B : zB} {j : Int} (h : PQs K V p F B) (ht : 0 ≤ t ∧ t < K.2 9) (hS : SBb t B) (hj : 0 ≤ j ∧ j < 800) : ∀ (d N : Nat) (u v : Int), u + d = V → 0 ≤ u → d < N → (-1 ≤ v ∧ v ≤ 1000000000000) → ∃ r, f_Study_nextPlace_7 K N u v t p j F B = some (r, F, B) ∧ -1 ≤ r ∧ r ≤ 1000000000000 := by
  have hV := h.2.1
  intro d
  induction d with
  | zero =>
    intro N u v hu u0 hN hv
    obtain ⟨n, rfl⟩ : ∃ n, N = n + 1 := ⟨N - 1, by omega⟩
    rw [f_Study_nextPlace_7, if_pos h.1, if_pos (by unfold r32; omega), if_pos (by unfold r32; omega), if_pos (by omega)]
    exact ⟨v, rfl, hv⟩
  | succ d ih =>
    intro N u v hu u0 hN hv
    obtain ⟨n, rfl⟩ : ∃ n, N = n + 1 := ⟨N - 1, by omega⟩
    obtain ⟨m, q0, q1, q2, q3⟩ := h.2.2.2.2 u u0 (by omega)
    have b := hS.2.1 (280 + u.toNat) j (by omega) (by omega)
    have nxt : ∀ v', (-1 ≤ v' ∧ v' ≤ 1000000000000) → ∃ r, f_Study_nextPlace_82 (f_Study_nextPlace_7 K n) K u v' t p j F B = some (r, F, B) ∧ -1 ≤ r ∧ r ≤ 1000000000000 := fun v' hv' => ih n (u + 1) v' (by omega) (by omega) (by omega) hv'
    rw [f_Study_nextPlace_7, if_pos h.1, if_pos (by unfold r32; omega), if_pos (by unfold r32; omega), if_neg (by omega), if_pos (by omega), if_pos ht, if_pos hj, if_pos q0, if_pos (by unfold r32; omega), q1, if_pos (by unfold r32; omega)]
    by_cases c : m ≤ B 9 t (280 + u.toNat) j + 1
    · rw [if_pos c]; exact nxt v hv
    obtain ⟨k1, k2, k3⟩ := q3 (B 9 t (280 + u.toNat) j + 1) (by omega) (by omega)
    have o70 : ∃ r, f_Study_nextPlace_70 (f_Study_nextPlace_7 K n) K (B 9 t (280 + u.toNat) j + 1) (B 6 p 0 u) u t p j F B = some (r, F, B) ∧ -1 ≤ r ∧ r ≤ 1000000000000 := by
      unfold f_Study_nextPlace_70
      rw [if_pos q0, if_pos (by omega), if_pos k1.1]
      exact nxt _ (by omega)
    rw [if_neg c, if_pos (by unfold r64; omega)]
    by_cases c1 : zcmp v 0 < 0
    · rw [if_pos c1]; exact o70
    rw [if_neg c1, if_pos (by omega), if_pos k1.1, if_pos (by unfold r64; omega)]
    by_cases c2 : 0 ≤ zcmp (F 1 (B 4 (B 6 p 0 u) 5 (B 9 t (280 + u.toNat) j + 1)) 0) v
    · rw [if_pos c2]; exact nxt v hv
    · rw [if_neg c2]; exact o70
theorem C_fm68 {v j : Int} {F : zF} {rec : Int → Int → Int → zF → zB → zO} (ht : 0 ≤ t ∧ t < K.2 9) (hj : 0 ≤ j ∧ j < 800) (hv : -1 ≤ v ∧ v ≤ 1000000000000) : ∀ (d N : Nat) (u : Int) (B : zB), u + d = V → 0 ≤ u → d < N → PQs K V p F B → SBb t B → ∃ B', f_Study_findMoments_68 rec K N u v j t p F B = rec (j + 1) t p (zup3 F 9 t 0 (j + 1)) B' ∧ stB t B B' ∧ SBb t B' := by
  intro d
  induction d with
  | zero =>
    intro N u B hu u0 hN h hS
    obtain ⟨n, rfl⟩ : ∃ n, N = n + 1 := ⟨N - 1, by omega⟩
    have hV := h.2.1
    rw [f_Study_findMoments_68, if_pos h.1, if_pos (by unfold r32; omega), if_pos (by unfold r32; omega), if_pos (by omega), if_pos ht]
    exact ⟨B, rfl, stB_r, hS⟩
  | succ d ih =>
    intro N u B hu u0 hN h hS
    obtain ⟨n, rfl⟩ : ∃ n, N = n + 1 := ⟨N - 1, by omega⟩
    have hV := h.2.1
    obtain ⟨m, q0, q1, q2, q3⟩ := h.2.2.2.2 u u0 (by omega)
    have zm : 0 ≤ zmax (j - 1) 0 ∧ zmax (j - 1) 0 < 800 := by unfold zmax; split <;> omega
    have b := hS.2.1 (280 + u.toNat) (zmax (j - 1) 0) (by omega) (by omega)
    have o136 : ∀ x s, (s = 0 ∧ 0 ≤ x ∧ x ≤ 200) ∨ (s = 1 ∧ 0 ≤ x ∧ x ≤ 199) → ∃ B', f_Study_findMoments_136 rec (f_Study_findMoments_68 rec K n) K x u v j t p s F B = rec (j + 1) t p (zup3 F 9 t 0 (j + 1)) B' ∧ stB t B B' ∧ SBb t B' := fun x s hx => by
      have o160 : ∀ y, -1 ≤ y ∧ y ≤ 199 → ∃ B', f_Study_findMoments_160 rec (f_Study_findMoments_68 rec K n) K u v j t p t u j y F B = rec (j + 1) t p (zup3 F 9 t 0 (j + 1)) B' ∧ stB t B B' ∧ SBb t B' := fun y hy => by
        unfold f_Study_findMoments_160
        rw [if_pos ht, if_pos (by omega), if_pos hj]
        obtain ⟨B', g1, g2, g3⟩ := ih n (u + 1) (zup4 B 9 t (280 + u.toNat) j y) (by omega) (by omega) (by omega) (PKs_f h stF_r stB_w) (SB_w hS (by omega) (by omega) (by omega) (by omega) (by omega))
        exact ⟨B', g1, stB_t stB_w g2, g3⟩
      unfold f_Study_findMoments_136
      rw [if_pos ht, if_pos (by omega), if_pos (by unfold r32; omega)]
      by_cases c : s = 0
      · rw [if_pos c]; exact o160 _ (by omega)
      · rw [if_neg c]; exact o160 _ (by omega)
    have o135 : ∀ x, 0 ≤ x ∧ x ≤ 200 → ∃ B', f_Study_findMoments_135 rec (f_Study_findMoments_68 rec K n) K x u v j t p F B = rec (j + 1) t p (zup3 F 9 t 0 (j + 1)) B' ∧ stB t B B' ∧ SBb t B' := fun x hx => o136 x 0 (Or.inl ⟨rfl, hx⟩)
    rw [f_Study_findMoments_68, if_pos h.1, if_pos (by unfold r32; omega), if_pos (by unfold r32; omega), if_neg (by omega), if_pos (by omega), if_pos ht, if_pos (by unfold r32; omega), if_pos zm, if_pos q0, if_pos (by unfold r32; omega), q1, if_pos (by unfold r32; omega)]
    by_cases c : m ≤ B 9 t (280 + u.toNat) (zmax (j - 1) 0) + 1
    · rw [if_pos c]; exact o135 _ (by omega)
    obtain ⟨k1, k2, k3⟩ := q3 (B 9 t (280 + u.toNat) (zmax (j - 1) 0) + 1) (by omega) (by omega)
    rw [if_neg c, if_pos (by omega), if_pos k1.1, if_pos (by unfold r64; omega), if_pos (by unfold r64; omega)]
    by_cases c1 : zcmp (F 1 (B 4 (B 6 p 0 u) 5 (B 9 t (280 + u.toNat) (zmax (j - 1) 0) + 1)) 0) v = 0
    · rw [if_pos c1]; exact o136 _ 1 (Or.inr ⟨rfl, by omega⟩)
    · rw [if_neg c1]; exact o135 _ (by omega)
theorem C_fm29 {F0 : zF} {B0 : zB} (hK : 60000 ≤ K.1) (h : PQs K V p F0 B0) (ht : 0 ≤ t ∧ t < K.2 9) : ∀ (d N : Nat) (j : Int) (F : zF) (B : zB), j + d = 800 → 0 ≤ j → d < N → stF t F0 F → stB t B0 B → SBb t B → F 9 t 0 = j → F 9 t 2 = F0 9 t 2 → ∃ F' B', f_Study_findMoments_29 K N j t p F B = some (0, F', B') ∧ stF t F0 F' ∧ stB t B0 B' ∧ SBb t B' ∧ (0 ≤ F' 9 t 0 ∧ F' 9 t 0 ≤ 800) ∧ F' 9 t 2 = F0 9 t 2 := by
  intro d
  induction d with
  | zero =>
    intro N j F B hj j0 hN f b hS h0 h2
    obtain ⟨n, rfl⟩ : ∃ n, N = n + 1 := ⟨N - 1, by omega⟩
    rw [f_Study_findMoments_29, if_pos ht, if_pos (by unfold r32; omega), if_pos (by omega)]
    exact ⟨F, B, rfl, f, b, hS, by omega, h2⟩
  | succ d ih =>
    intro N j F B hj j0 hN f b hS h0 h2
    obtain ⟨n, rfl⟩ : ∃ n, N = n + 1 := ⟨N - 1, by omega⟩
    have hq := PKs_f h f b
    have hV := hq.2.1
    have zm : 0 ≤ zmax (j - 1) 0 ∧ zmax (j - 1) 0 < 800 := by unfold zmax; split <;> omega
    obtain ⟨r, e, r0, r1⟩ := C_snp hq ht hS zm V.toNat K.1 0 (-1) (by omega) (by decide) (by omega) (by omega)
    have e' : f_Study_nextPlace K t p (zmax (j - 1) 0) F B = some (r, F, B) := e
    rw [f_Study_findMoments_29, if_pos ht, if_pos (by unfold r32; omega), if_neg (by omega), if_pos (by unfold r32; omega), e', zb_s, if_pos (by unfold r64; omega)]
    by_cases c : 0 ≤ zcmp r 0
    · have rp : 0 ≤ r := by unfold zcmp at c; split at c <;> omega
      rw [if_pos c, if_pos (by omega)]
      obtain ⟨B1, g1, g2, g3⟩ := C_fm68 (V := V) (p := p) (v := r) (j := j) (F := F) (rec := f_Study_findMoments_29 K n) ht (by omega) (by omega) V.toNat K.1 0 (zup4 B 9 t 1 j r) (by omega) (by decide) (by omega) (PKs_f hq stF_r stB_w) (SB_w hS (by omega) (by omega) (by omega) (by omega) (by omega))
      rw [g1]
      exact ih n (j + 1) _ B1 (by omega) (by omega) (by omega) (stF_t f (stF_w (by omega))) (stB_t b (stB_t stB_w g2)) g3 (by rw [zup3_v, if_pos ⟨rfl, rfl, rfl⟩]) (by rw [zup3_v, if_neg (by omega)]; exact h2)
    · rw [if_neg c]
      exact ⟨F, B, rfl, f, b, hS, by omega, h2⟩
theorem C_fm7 {F : zF} (ht : 0 ≤ t ∧ t < K.2 9) : ∀ (d N : Nat) (i : Int) (B : zB), i + d = 4 → 0 ≤ i → d < N → SBb t B → ∃ B', f_Study_findMoments_7 K N i t p F B = f_Study_findMoments_29 K K.1 0 t p F B' ∧ stB t B B' ∧ SBb t B' := by
  intro d
  induction d with
  | zero =>
    intro N i B hi i0 hN hS
    obtain ⟨n, rfl⟩ : ∃ n, N = n + 1 := ⟨N - 1, by omega⟩
    rw [f_Study_findMoments_7, if_pos (by unfold r32; omega), if_pos (by omega)]
    exact ⟨B, rfl, stB_r, hS⟩
  | succ d ih =>
    intro N i B hi i0 hN hS
    obtain ⟨n, rfl⟩ : ∃ n, N = n + 1 := ⟨N - 1, by omega⟩
    rw [f_Study_findMoments_7, if_pos (by unfold r32; omega), if_neg (by omega), if_pos ht, if_pos (by omega)]
    obtain ⟨B', g1, g2, g3⟩ := ih n (i + 1) (zup4 B 9 t (280 + i.toNat) 0 (-1)) (by omega) (by omega) (by omega) (SB_w hS (by omega) (by omega) (by omega) (by omega) (by omega))
    exact ⟨B', g1, stB_t stB_w g2, g3⟩
theorem C_fmo {F : zF} {B : zB} (hK : 60000 ≤ K.1) (h : PQs K V p F B) (ht : 0 ≤ t ∧ t < K.2 9) (hS : SBb t B) : ∃ F' B', f_Study_findMoments K t p F B = some (0, F', B') ∧ stF t F F' ∧ stB t B B' ∧ SBb t B' ∧ (0 ≤ F' 9 t 0 ∧ F' 9 t 0 ≤ 800) := by
  obtain ⟨B1, e, g1, g2⟩ := C_fm7 (p := p) (F := zup3 F 9 t 0 0) ht 4 K.1 0 B (by omega) (by decide) (by omega) hS
  obtain ⟨F2, B2, e2, k1, k2, k3, k4, _⟩ := C_fm29 (F0 := zup3 F 9 t 0 0) (B0 := B1) hK (PKs_f h (stF_w (by omega)) g1) ht 800 K.1 0 (zup3 F 9 t 0 0) B1 (by omega) (by decide) (by omega) stF_r stB_r g2 (by rw [zup3_v, if_pos ⟨rfl, rfl, rfl⟩]) rfl
  unfold f_Study_findMoments
  rw [if_pos ht, e, e2]
  exact ⟨F2, B2, rfl, stF_t (stF_w (by omega)) k1, stB_t g1 k2, k3, k4⟩
theorem C_tl2 {j : Int} {F : zF} (hK : 60000 ≤ K.1) (ht : 0 ≤ t ∧ t < K.2 9) (hj : 0 ≤ j ∧ j < 800) : ∀ (d N : Nat) (u : Int) (B : zB), u + d = V → 0 ≤ u → d < N → PQs K V p F B → SBb t B → ∃ B', f_Study_takeLines_2 K N u t p j F B = some (0, F, B') ∧ stB t B B' ∧ SBb t B' := by
  intro d
  induction d with
  | zero =>
    intro N u B hu u0 hN h hS
    obtain ⟨n, rfl⟩ : ∃ n, N = n + 1 := ⟨N - 1, by omega⟩
    have hV := h.2.1
    rw [f_Study_takeLines_2, if_pos h.1, if_pos (by unfold r32; omega), if_pos (by unfold r32; omega), if_pos (by omega)]
    exact ⟨B, rfl, stB_r, hS⟩
  | succ d ih =>
    intro N u B hu u0 hN h hS
    obtain ⟨n, rfl⟩ : ∃ n, N = n + 1 := ⟨N - 1, by omega⟩
    have hV := h.2.1
    obtain ⟨r, e, hr⟩ := C_evO h ht hS u0 (by omega) hj
    have s5 := (hS.2.2 u).1
    have s6 := (hS.2.2 u).2.1
    have hS1 : SBb t (zup4 B 9 t 7 u (B 9 t 5 u)) := SB_w hS (by omega) (by omega) (by omega) (by omega) (by omega)
    have e6 : (zup4 B 9 t 7 u (B 9 t 5 u)) 9 t 6 u = B 9 t 6 u := by rw [zup4_v, if_neg (by omega)]
    have hS2 : SBb t (zup4 (zup4 B 9 t 7 u (B 9 t 5 u)) 9 t 8 u (B 9 t 6 u)) := SB_w hS1 (by omega) (by omega) (by omega) (by omega) (by omega)
    have hB2 : stB t B (zup4 (zup4 B 9 t 7 u (B 9 t 5 u)) 9 t 8 u (B 9 t 6 u)) := stB_t stB_w stB_w
    rw [f_Study_takeLines_2, if_pos h.1, if_pos (by unfold r32; omega), if_pos (by unfold r32; omega), if_neg (by omega), if_pos ht, e, zb_s, if_pos (by omega), e6]
    generalize zup4 (zup4 B 9 t 7 u (B 9 t 5 u)) 9 t 8 u (B 9 t 6 u) = B2 at hS2 hB2 ⊢
    have h2 := PKs_f h stF_r hB2
    -- what is taken of one voice
    have o136 : ∀ (C : zB) (y : Int), stB t B2 C → SBb t C → (-1 ≤ y ∧ y ≤ 200) → ∃ B', f_Study_takeLines_136 (f_Study_takeLines_2 K n) K u t p j t u y F C = some (0, F, B') ∧ stB t B B' ∧ SBb t B' := fun C y hC sC hy => by
      unfold f_Study_takeLines_136
      rw [if_pos ht, if_pos (by omega)]
      obtain ⟨B', g1, g2, g3⟩ := ih n (u + 1) (zup4 C 9 t 6 u y) (by omega) (by omega) (by omega) (PKs_f h2 stF_r (stB_t hC stB_w)) (SB_w sC (by omega) (by omega) (by omega) (by omega) (by omega))
      exact ⟨B', g1, stB_t hB2 (stB_t hC (stB_t stB_w g2)), g3⟩
    have o89 : ∀ (a x s : Int), (s = 0 ∨ s = 1) → (x = -1 ∨ (EKc K a F B2 ∧ 0 ≤ x ∧ x < F 1 a 10)) → ∃ B', f_Study_takeLines_89 (f_Study_takeLines_2 K n) K x a u t p j t u s F B2 = some (0, F, B') ∧ stB t B B' ∧ SBb t B' := fun a x s hs hx => by
      have sA : SBb t (zup4 B2 9 t 9 u s) := SB_w hS2 (by omega) (by omega) (by omega) (by omega) (by omega)
      have o113 : ∀ y, (-1 ≤ y ∧ y ≤ 62) → ∃ B', f_Study_takeLines_113 (f_Study_takeLines_2 K n) K x a u t p j t u y F (zup4 B2 9 t 9 u s) = some (0, F, B') ∧ stB t B B' ∧ SBb t B' := fun y hy => by
        have sC : SBb t (zup4 (zup4 B2 9 t 9 u s) 9 t 5 u y) := SB_w sA (by omega) (by omega) (by omega) (by omega) (by omega)
        have bC : stB t B2 (zup4 (zup4 B2 9 t 9 u s) 9 t 5 u y) := stB_t stB_w stB_w
        unfold f_Study_takeLines_113
        rw [if_pos ht, if_pos (by omega), if_pos ht]
        rcases hx with z | ⟨ek, x0, x1⟩
        · rw [if_pos (by unfold r32; omega), if_pos z]
          exact o136 _ _ bC sC (by omega)
        · have k10 := ek.2.1
          have kx := ek.2.2 x x0 x1
          have cb : ∀ k z, (zup4 (zup4 B2 9 t 9 u s) 9 t 5 u y) 1 a k z = B2 1 a k z := fun k z => bC 1 a k z (by omega)
          have et := C_tone (K := K) (F := F) (B := zup4 (zup4 B2 9 t 9 u s) 9 t 5 u y) (e := a) (k := x) ek.1 (by omega) (by rw [cb]; exact kx.1)
          have tb := tnv_r kx.1.1 kx.1.2 kx.2.1 kx.2.2
          rw [if_pos (by unfold r32; omega), if_neg (by omega), if_pos ek.1, et, zb_s, cb, cb]
          exact o136 _ _ bC sC (by omega)
      unfold f_Study_takeLines_89
      rw [if_pos ht, if_pos (by omega), if_pos hs, if_pos ht]
      rcases hx with z | ⟨ek, x0, x1⟩
      · rw [if_pos (by unfold r32; omega), if_pos z]; exact o113 (-1) (by omega)
      · have k10 := ek.2.1
        have kx := ek.2.2 x x0 x1
        rw [if_pos (by unfold r32; omega), if_neg (by omega), if_pos ek.1, if_pos (by omega), show (zup4 B2 9 t 9 u s) 1 a 12 x = B2 1 a 12 x by rw [zup4_v, if_neg (by omega)]]
        exact o113 _ (by omega)
    have o57 : ∀ (a x : Int), (a < 0 ∧ x = -1) ∨ (EKc K a F B2 ∧ (0 ≤ F 1 a 0 ∧ F 1 a 0 ≤ 1000000000000) ∧ (x = -1 ∨ (0 ≤ x ∧ x < F 1 a 10))) → ∃ B', f_Study_takeLines_57 (f_Study_takeLines_2 K n) K a u t p j x F B2 = some (0, F, B') ∧ stB t B B' ∧ SBb t B' := fun a x hx => by
      unfold f_Study_takeLines_57 f_Study_takeLines_88
      rw [if_pos ht]
      rcases hx with ⟨a0, z⟩ | ⟨ek, pl, z⟩
      · rw [if_pos a0]; exact o89 a x 0 (Or.inl rfl) (Or.inl z)
      · have z' : x = -1 ∨ (EKc K a F B2 ∧ 0 ≤ x ∧ x < F 1 a 10) := by
          rcases z with z | z
          · exact Or.inl z
          · exact Or.inr ⟨ek, z⟩
        have b1 := hS2.1 j
        rw [if_neg (by have := ek.1; omega), if_pos ek.1, if_pos hj, if_pos (by unfold r64; omega), if_pos (by unfold r64; omega)]
        by_cases c : zcmp (F 1 a 0) (B2 9 t 1 j) = 0
        · rw [if_pos c]; exact o89 a x 1 (Or.inr rfl) z'
        · rw [if_neg c]; exact o89 a x 0 (Or.inl rfl) z'
    rcases hr with r1 | ⟨ek, pl⟩
    · rw [if_pos (by omega)]; exact o57 r (-1) (Or.inl ⟨by omega, rfl⟩)
    · have ek2 : EKc K r F B2 := by
        unfold EKc at *
        simp only [hB2 1 r 12 _ (by omega), hB2 1 r 13 _ (by omega)]
        exact ek
      have hc := ek2.2.1
      obtain ⟨x, e1, x0, x1⟩ := C_top4 ek2 (F 1 r 10).toNat K.1 0 (-1) (by omega) (by omega) (by omega) (by omega) (by omega)
      have e1' : f_Event_top K r F B2 = some (x, F, B2) := e1
      rw [if_neg (by have := ek.1; omega), if_pos ek.1, e1', zb_s]
      exact o57 r x (Or.inr ⟨ek2, pl, by omega⟩)
end
end
end
section
section
/-! ===== study: moments, class, exactly ===== -/
variable {K : zK} {V p t : Int} {S : zV}
/-- the class's events are S -/
def SCl (K : zK) (V p : Int) (S : zV) (F : zF) (B : zB) : Prop := (0 ≤ p ∧ p < K.2 6) ∧ F 6 p 1 = V ∧ ∀ u, 0 ≤ u → u < V → (0 ≤ B 6 p 0 u ∧ B 6 p 0 u < K.2 4) ∧ F 4 (B 6 p 0 u) 6 = S u 0 0 0 ∧ ∀ i, 0 ≤ i → i < S u 0 0 0 → (0 ≤ B 4 (B 6 p 0 u) 5 i ∧ B 4 (B 6 p 0 u) 5 i < K.2 1) ∧ F 1 (B 4 (B 6 p 0 u) 5 i) 0 = S u 1 i 0 ∧ F 1 (B 4 (B 6 p 0 u) 5 i) 10 = S u 2 i 0 ∧ ∀ j, 0 ≤ j → j < S u 2 i 0 → B 1 (B 4 (B 6 p 0 u) 5 i) 12 j = S u 3 i j ∧ B 1 (B 4 (B 6 p 0 u) 5 i) 13 j = S u 4 i j
theorem SCl_f {F F' : zF} {B B' : zB} (h : SCl K V p S F B) (f : stF t F F') (b : stB t B B') : SCl K V p S F' B' := by
  have f6 : ∀ k, F' 6 p k = F 6 p k := fun k => f 6 p k (by omega)
  have b6 : ∀ x, B' 6 p 0 x = B 6 p 0 x := fun x => b 6 p 0 x (by omega)
  have f4 : ∀ q k, F' 4 q k = F 4 q k := fun q k => f 4 q k (by omega)
  have b4 : ∀ q k x, B' 4 q k x = B 4 q k x := fun q k x => b 4 q k x (by omega)
  have g1 : ∀ q k, F' 1 q k = F 1 q k := fun q k => f 1 q k (by omega)
  have c1 : ∀ q k x, B' 1 q k x = B 1 q k x := fun q k x => b 1 q k x (by omega)
  unfold SCl at *
  simp only [f6, b6, f4, b4, g1, c1]
  exact h
theorem SCl_m {K' : zK} {F F' : zF} {B B' : zB} (h : SCl K V p S F B) (kk : ∀ c, K.2 c ≤ K'.2 c) (f6 : F' 6 p 1 = F 6 p 1) (b6 : ∀ x, B' 6 p 0 x = B 6 p 0 x) (f4 : ∀ y k, y < K.2 4 → F' 4 y k = F 4 y k) (b4 : ∀ y k x, y < K.2 4 → B' 4 y k x = B 4 y k x) (f1 : ∀ y k, y < K.2 1 → F' 1 y k = F 1 y k) (b1 : ∀ y k x, y < K.2 1 → B' 1 y k x = B 1 y k x) : SCl K' V p S F' B' := by
  have k6 := kk 6
  have k4 := kk 4
  have k1 := kk 1
  obtain ⟨h1, h2, h3⟩ := h
  refine ⟨⟨h1.1, by omega⟩, by rw [f6]; exact h2, fun u u0 u1 => ?_⟩
  obtain ⟨q0, q1, q2⟩ := h3 u u0 u1
  rw [b6]
  refine ⟨⟨q0.1, by omega⟩, by rw [f4 _ 6 q0.2]; exact q1, fun i i0 i1 => ?_⟩
  obtain ⟨e1, e2, e3, e4⟩ := q2 i i0 i1
  rw [b4 _ 5 i q0.2, f1 _ 0 e1.2, f1 _ 10 e1.2]
  refine ⟨⟨e1.1, by omega⟩, e2, e3, fun j j0 j1 => ?_⟩
  rw [b1 _ 12 j e1.2, b1 _ 13 j e1.2]
  exact e4 j j0 j1
theorem SCl_k {w : Int} {F Fm : zF} {B Bm : zB} (h : PK K V p w F B Fm Bm) (hS : SG V S) (hR : SRm V w S Fm Bm) : SCl K V p S F B := by
  obtain ⟨⟨h1, h2, h3, h4, h5⟩, ⟨k2, k3, k4, k5, k6, k7⟩, hv⟩ := h
  refine ⟨h1, h4, fun u u0 u1 => ?_⟩
  obtain ⟨hH, m, g, vk, _⟩ := hv u u0 u1
  obtain ⟨⟨a1, a2, a3⟩, a4, a5, a6, a7, a8, a9, a10, c, nw, qn, gb⟩ := vk
  obtain ⟨r1, r2⟩ := hR.2.2 u u0 u1
  have e0 : S u 0 0 0 = m := by rw [← r1]; exact a4
  refine ⟨hH.1, by rw [e0]; exact a1, fun i i0 i1 => ?_⟩
  obtain ⟨j, rfl⟩ : ∃ j : Nat, i = j := ⟨i.toNat, by omega⟩
  have i2 : (j : Int) < m := by rw [← e0]; exact i1
  obtain ⟨s1, s2, s3, s4⟩ := r2 j i0 i1
  obtain ⟨ev, q1, q2, q3, _⟩ := a8 j (by omega)
  have ep := ev.2.2.2.2.2.2.2.2.2.2
  have g3 := (hS.2 u u0 u1).2.2.1 j i0 i1
  have t0 := sumZ_0 a5 j (by omega)
  have pl : F 1 (B 4 (B 6 p 0 u) 5 j) 0 = S u 1 j 0 := by rw [q1]; exact nd_iv t0 g3.1.1 (by rw [← q2, s1]) (by rw [← q3, s2])
  have cn : F 1 (B 4 (B 6 p 0 u) 5 j) 10 = S u 2 j 0 := by rw [← ep.2.1, s3]
  refine ⟨(qn.2.2.2.2.2.1 j i0 i2).1, pl, cn, fun k k0 k1 => ?_⟩
  obtain ⟨y1, y2⟩ := s4 k k0 k1
  rw [← cn] at k1
  obtain ⟨z1, z2, _⟩ := ep.2.2.2.1 k k0 k1
  exact ⟨by rw [z1, y1], by rw [z2, y2]⟩
/-- of the voices before u, the nearest next event; e: where each voice is -/
def NPx (S : zV) (e : Int → Int) (u v : Int) : Prop := (v = -1 ∧ ∀ u', 0 ≤ u' → u' < u → ¬ e u' + 1 < S u' 0 0 0) ∨ (0 ≤ v ∧ v ≤ 1000000000000 ∧ (∃ u', 0 ≤ u' ∧ u' < u ∧ e u' + 1 < S u' 0 0 0 ∧ S u' 1 (e u' + 1) 0 = v) ∧ ∀ u', 0 ≤ u' → u' < u → e u' + 1 < S u' 0 0 0 → v ≤ S u' 1 (e u' + 1) 0)
theorem C_npx {j : Int} {e : Int → Int} {F : zF} {B : zB} (hS : SG V S) (h : SCl K V p S F B) (ht : 0 ≤ t ∧ t < K.2 9) (hj : 0 ≤ j ∧ j < 800) (he : ∀ u, 0 ≤ u → u < V → B 9 t (280 + u.toNat) j = e u ∧ -1 ≤ e u ∧ e u < S u 0 0 0) : ∀ (d N : Nat) (u v : Int), u + d = V → 0 ≤ u → d < N → NPx S e u v → ∃ r, f_Study_nextPlace_7 K N u v t p j F B = some (r, F, B) ∧ NPx S e V r := by
  have v4 := hS.1
  obtain ⟨h1, h2, h3⟩ := h
  intro d
  induction d with
  | zero =>
    intro N u v hu u0 hN hv
    obtain ⟨n, rfl⟩ : ∃ n, N = n + 1 := ⟨N - 1, by omega⟩
    rw [f_Study_nextPlace_7, if_pos h1, if_pos (show r32 u by unfold r32; omega), h2, if_pos (show r32 V by unfold r32; omega), if_pos (show V ≤ u by omega)]
    rw [show u = V by omega] at hv
    exact ⟨v, rfl, hv⟩
  | succ d ih =>
    intro N u v hu u0 hN hv
    obtain ⟨n, rfl⟩ : ∃ n, N = n + 1 := ⟨N - 1, by omega⟩
    obtain ⟨q0, q1, q2⟩ := h3 u u0 (by omega)
    obtain ⟨g1, _, g3, _⟩ := hS.2 u u0 (by omega)
    obtain ⟨b1, b2, b3⟩ := he u u0 (by omega)
    rw [f_Study_nextPlace_7, if_pos h1, if_pos (show r32 u by unfold r32; omega), h2, if_pos (show r32 V by unfold r32; omega), if_neg (show ¬ V ≤ u by omega), if_pos (show 0 ≤ u ∧ u < 4 by omega), if_pos ht, if_pos hj, if_pos q0, b1, if_pos (show r32 (e u + 1) by unfold r32; omega), q1, if_pos (show r32 (S u 0 0 0) by unfold r32; omega)]
    have stay : (¬ e u + 1 < S u 0 0 0 ∨ (0 ≤ v ∧ v ≤ S u 1 (e u + 1) 0)) → NPx S e (u + 1) v := fun z => by
      rcases hv with ⟨a1, a2⟩ | ⟨a0, a1, ⟨u', x0, x1, x2, x3⟩, a2⟩
      · refine Or.inl ⟨a1, fun u' y0 y1 => ?_⟩
        by_cases y : u' = u
        · rw [y]; rcases z with z | z
          · exact z
          · omega
        · exact a2 u' y0 (by omega)
      · refine Or.inr ⟨a0, a1, ⟨u', x0, by omega, x2, x3⟩, fun u' y0 y1 y2 => ?_⟩
        by_cases y : u' = u
        · rw [y] at y2 ⊢
          rcases z with z | z
          · exact absurd y2 z
          · exact z.2
        · exact a2 u' y0 (by omega) y2
    by_cases c : S u 0 0 0 ≤ e u + 1
    · rw [if_pos c, f_Study_nextPlace_82]
      exact ih n (u + 1) v (by omega) (by omega) (by omega) (stay (Or.inl (by omega)))
    obtain ⟨k1, k2, _⟩ := q2 (e u + 1) (by omega) (by omega)
    obtain ⟨y0, y1⟩ := (g3 (e u + 1) (by omega) (by omega)).1
    have vb : r64 v := by
      unfold r64
      rcases hv with ⟨a1, _⟩ | ⟨a0, a1, _⟩
      · omega
      · omega
    have o70 : v < 0 ∨ S u 1 (e u + 1) 0 < v → ∃ r, f_Study_nextPlace_70 (f_Study_nextPlace_7 K n) K (e u + 1) (B 6 p 0 u) u t p j F B = some (r, F, B) ∧ NPx S e V r := fun z => by
      rw [f_Study_nextPlace_70, if_pos q0, if_pos (show 0 ≤ e u + 1 ∧ e u + 1 < 200 by omega), if_pos k1, k2, f_Study_nextPlace_82]
      refine ih n (u + 1) _ (by omega) (by omega) (by omega) (Or.inr ⟨y0, y1, ⟨u, u0, by omega, by omega, rfl⟩, fun u' z0 z1 z2 => ?_⟩)
      by_cases y : u' = u
      · rw [y]; exact Int.le_refl _
      · rcases hv with ⟨a1, a2⟩ | ⟨a0, a1, _, a2⟩
        · exact absurd z2 (a2 u' z0 (by omega))
        · have := a2 u' z0 (by omega) z2
          omega
    rw [if_neg c, if_pos vb]
    by_cases c1 : zcmp v 0 < 0
    · rw [if_pos c1]; exact o70 (Or.inl (zcmp_lt.mp c1))
    have v0 : 0 ≤ v := by
      by_cases z : v < 0
      · exact absurd (zcmp_lt.mpr z) c1
      · omega
    rw [if_neg c1, if_pos (show 0 ≤ e u + 1 ∧ e u + 1 < 200 by omega), if_pos k1, k2, if_pos (show r64 (S u 1 (e u + 1) 0) by unfold r64; omega)]
    by_cases c2 : 0 ≤ zcmp (S u 1 (e u + 1) 0) v
    · rw [if_pos c2, f_Study_nextPlace_82]
      exact ih n (u + 1) v (by omega) (by omega) (by omega) (stay (Or.inr ⟨v0, zcmp_o.mp c2⟩))
    · rw [if_neg c2]
      refine o70 (Or.inr ?_)
      by_cases z : S u 1 (e u + 1) 0 < v
      · exact z
      · exact absurd (zcmp_o.mpr (show v ≤ S u 1 (e u + 1) 0 by omega)) c2
/-- where a voice is behind moment v -/
def nxE (S : zV) (e : Int → Int) (v u : Int) : Int := if e u + 1 < S u 0 0 0 ∧ S u 1 (e u + 1) 0 = v then e u + 1 else e u
def m28 (t j : Int) (B B' : zB) : Prop := ∀ c y k x, ¬ (c = 9 ∧ y = t ∧ 280 ≤ k ∧ k ≤ 283 ∧ x = j) → B' c y k x = B c y k x
theorem C_fm68x {v j : Int} {e : Int → Int} {F : zF} {rec : Int → Int → Int → zF → zB → zO} (hS : SG V S) (ht : 0 ≤ t ∧ t < K.2 9) (hj : 0 ≤ j ∧ j < 800) (hv : 0 ≤ v ∧ v ≤ 1000000000000) : ∀ (d N : Nat) (u : Int) (B : zB), u + d = V → 0 ≤ u → d < N → SCl K V p S F B → (∀ u', u ≤ u' → u' < V → B 9 t (280 + u'.toNat) (zmax (j - 1) 0) = e u' ∧ -1 ≤ e u' ∧ e u' < S u' 0 0 0) → ∃ B', f_Study_findMoments_68 rec K N u v j t p F B = rec (j + 1) t p (zup3 F 9 t 0 (j + 1)) B' ∧ m28 t j B B' ∧ (∀ u', 0 ≤ u' → u' < u → B' 9 t (280 + u'.toNat) j = B 9 t (280 + u'.toNat) j) ∧ ∀ u', u ≤ u' → u' < V → B' 9 t (280 + u'.toNat) j = nxE S e v u' := by
  have v4 := hS.1
  have zm : 0 ≤ zmax (j - 1) 0 ∧ zmax (j - 1) 0 < 800 := by unfold zmax; split <;> omega
  intro d
  induction d with
  | zero =>
    intro N u B hu u0 hN h he
    obtain ⟨n, rfl⟩ : ∃ n, N = n + 1 := ⟨N - 1, by omega⟩
    rw [f_Study_findMoments_68, if_pos h.1, if_pos (show r32 u by unfold r32; omega), h.2.1, if_pos (show r32 V by unfold r32; omega), if_pos (show V ≤ u by omega), if_pos ht]
    exact ⟨B, rfl, fun _ _ _ _ _ => rfl, fun _ _ _ => rfl, fun u' a b => by omega⟩
  | succ d ih =>
    intro N u B hu u0 hN h he
    obtain ⟨n, rfl⟩ : ∃ n, N = n + 1 := ⟨N - 1, by omega⟩
    have h' := h
    obtain ⟨h1, h2, h3⟩ := h
    obtain ⟨q0, q1, q2⟩ := h3 u u0 (by omega)
    obtain ⟨g1, _, g3, _⟩ := hS.2 u u0 (by omega)
    obtain ⟨b1, b2, b3⟩ := he u (Int.le_refl _) (by omega)
    have o160 : ∀ y, y = nxE S e v u → ∃ B', f_Study_findMoments_160 rec (f_Study_findMoments_68 rec K n) K u v j t p t u j y F B = rec (j + 1) t p (zup3 F 9 t 0 (j + 1)) B' ∧ m28 t j B B' ∧ (∀ u', 0 ≤ u' → u' < u → B' 9 t (280 + u'.toNat) j = B 9 t (280 + u'.toNat) j) ∧ ∀ u', u ≤ u' → u' < V → B' 9 t (280 + u'.toNat) j = nxE S e v u' := fun y hy => by
      rw [f_Study_findMoments_160, if_pos ht, if_pos (show 0 ≤ u ∧ u < 4 by omega), if_pos hj]
      obtain ⟨B', x1, x2, x3, x4⟩ := ih n (u + 1) (zup4 B 9 t (280 + u.toNat) j y) (by omega) (by omega) (by omega) (SCl_f h' stF_r stB_w) (fun u' a b => by
        rw [zup4_v, if_neg (by omega)]
        exact he u' (by omega) b)
      refine ⟨B', x1, fun c y k x nn => by rw [x2 c y k x nn, zup4_v, if_neg (by omega)], fun u' a b => by rw [x3 u' a (by omega), zup4_v, if_neg (by omega)], fun u' a b => ?_⟩
      by_cases z : u' = u
      · rw [z, x3 u u0 (by omega), zup4_v, if_pos ⟨rfl, rfl, rfl, rfl⟩, hy]
      · exact x4 u' (by omega) b
    have o135 : ¬ (e u + 1 < S u 0 0 0 ∧ S u 1 (e u + 1) 0 = v) → ∃ B', f_Study_findMoments_135 rec (f_Study_findMoments_68 rec K n) K (e u + 1) u v j t p F B = rec (j + 1) t p (zup3 F 9 t 0 (j + 1)) B' ∧ m28 t j B B' ∧ (∀ u', 0 ≤ u' → u' < u → B' 9 t (280 + u'.toNat) j = B 9 t (280 + u'.toNat) j) ∧ ∀ u', u ≤ u' → u' < V → B' 9 t (280 + u'.toNat) j = nxE S e v u' := fun z => by
      rw [f_Study_findMoments_135, f_Study_findMoments_136, if_pos ht, if_pos (show 0 ≤ u ∧ u < 4 by omega), if_pos (show r32 0 by decide), if_pos (show (0 : Int) = 0 from rfl)]
      exact o160 _ (by unfold nxE; rw [if_neg z]; omega)
    rw [f_Study_findMoments_68, if_pos h1, if_pos (show r32 u by unfold r32; omega), h2, if_pos (show r32 V by unfold r32; omega), if_neg (show ¬ V ≤ u by omega), if_pos (show 0 ≤ u ∧ u < 4 by omega), if_pos ht, if_pos (show r32 (j - 1) by unfold r32; omega), if_pos zm, if_pos q0, b1, if_pos (show r32 (e u + 1) by unfold r32; omega), q1, if_pos (show r32 (S u 0 0 0) by unfold r32; omega)]
    by_cases c : S u 0 0 0 ≤ e u + 1
    · rw [if_pos c]; exact o135 (by omega)
    obtain ⟨k1, k2, _⟩ := q2 (e u + 1) (by omega) (by omega)
    obtain ⟨y0, y1⟩ := (g3 (e u + 1) (by omega) (by omega)).1
    rw [if_neg c, if_pos (show 0 ≤ e u + 1 ∧ e u + 1 < 200 by omega), if_pos k1, k2, if_pos (show r64 (S u 1 (e u + 1) 0) by unfold r64; omega), if_pos (show r64 v by unfold r64; omega)]
    by_cases c1 : zcmp (S u 1 (e u + 1) 0) v = 0
    · rw [if_pos c1, f_Study_findMoments_136, if_pos ht, if_pos (show 0 ≤ u ∧ u < 4 by omega), if_pos (show r32 1 by decide), if_neg (show ¬ (1 : Int) = 0 by decide)]
      exact o160 _ (by unfold nxE; rw [if_pos ⟨by omega, zcmp_0.mp c1⟩])
    · rw [if_neg c1]
      exact o135 (fun z => c1 (zcmp_0.mpr z.2))
/-- how many events are told -/
def s4E (V : Int) (e : Int → Int) : Int := (if 0 < V then e 0 + 1 else 0) + (if 1 < V then e 1 + 1 else 0) + (if 2 < V then e 2 + 1 else 0) + (if 3 < V then e 3 + 1 else 0)
theorem s4E_s {e e' : Int → Int} {u : Int} (hV : 1 ≤ V ∧ V ≤ 4) (u0 : 0 ≤ u) (u1 : u < V) (l : ∀ u', 0 ≤ u' → u' < V → e u' ≤ e' u') (g : e u + 1 ≤ e' u) : s4E V e + 1 ≤ s4E V e' := by
  have l0 := l 0 (by omega) (by omega)
  have l1 : 1 < V → e 1 ≤ e' 1 := fun z => l 1 (by omega) z
  have l2 : 2 < V → e 2 ≤ e' 2 := fun z => l 2 (by omega) z
  have l3 : 3 < V → e 3 ≤ e' 3 := fun z => l 3 (by omega) z
  have o : u = 0 ∨ u = 1 ∨ u = 2 ∨ u = 3 := by omega
  unfold s4E
  rcases (show V = 1 ∨ V = 2 ∨ V = 3 ∨ V = 4 by omega) with rfl | rfl | rfl | rfl
  · rw [if_pos (by decide), if_neg (by decide), if_neg (by decide), if_neg (by decide), if_pos (by decide), if_neg (by decide), if_neg (by decide), if_neg (by decide)]
    obtain rfl : u = 0 := by omega
    omega
  · have l1 := l1 (by decide)
    rw [if_pos (by decide), if_pos (by decide), if_neg (by decide), if_neg (by decide), if_pos (by decide), if_pos (by decide), if_neg (by decide), if_neg (by decide)]
    rcases (show u = 0 ∨ u = 1 by omega) with rfl | rfl <;> omega
  · have l1 := l1 (by decide)
    have l2 := l2 (by decide)
    rw [if_pos (by decide), if_pos (by decide), if_pos (by decide), if_neg (by decide), if_pos (by decide), if_pos (by decide), if_pos (by decide), if_neg (by decide)]
    rcases (show u = 0 ∨ u = 1 ∨ u = 2 by omega) with rfl | rfl | rfl <;> omega
  · have l1 := l1 (by decide)
    have l2 := l2 (by decide)
    have l3 := l3 (by decide)
    rw [if_pos (by decide), if_pos (by decide), if_pos (by decide), if_pos (by decide), if_pos (by decide), if_pos (by decide), if_pos (by decide), if_pos (by decide)]
    rcases o with rfl | rfl | rfl | rfl <;> omega
theorem s4E_e {e : Int → Int} (hS : SG V S) (hb : ∀ u, 0 ≤ u → u < V → e u < S u 0 0 0) (h : 800 ≤ s4E V e) : ∀ u, 0 ≤ u → u < V → ¬ e u + 1 < S u 0 0 0 := fun u u0 u1 g => by
  have hV := hS.1
  have b : ∀ u, 0 ≤ u → u < V → e u + 1 ≤ 200 := fun u u0 u1 => by have := (hS.2 u u0 u1).1; have := hb u u0 u1; omega
  have b0 := b 0 (by omega) (by omega)
  have gu := (hS.2 u u0 u1).1
  unfold s4E at h
  rcases (show V = 1 ∨ V = 2 ∨ V = 3 ∨ V = 4 by omega) with rfl | rfl | rfl | rfl
  · rw [if_pos (by decide), if_neg (by decide), if_neg (by decide), if_neg (by decide)] at h
    omega
  · have b1 := b 1 (by decide) (by decide)
    rw [if_pos (by decide), if_pos (by decide), if_neg (by decide), if_neg (by decide)] at h
    omega
  · have b1 := b 1 (by decide) (by decide)
    have b2 := b 2 (by decide) (by decide)
    rw [if_pos (by decide), if_pos (by decide), if_pos (by decide), if_neg (by decide)] at h
    omega
  · have b1 := b 1 (by decide) (by decide)
    have b2 := b 2 (by decide) (by decide)
    have b3 := b 3 (by decide) (by decide)
    rw [if_pos (by decide), if_pos (by decide), if_pos (by decide), if_pos (by decide)] at h
    rcases (show u = 0 ∨ u = 1 ∨ u = 2 ∨ u = 3 by omega) with rfl | rfl | rfl | rfl <;> omega
/-- where each voice is ahead of moment m -/
def eM (L : Int → Int → Int) (m u : Int) : Int := if m = 0 then -1 else L u (m - 1)
def aL (V : Int) (S : zV) (e : Int → Int) (x : Int) : Prop := ∃ u i, 0 ≤ u ∧ u < V ∧ 0 ≤ i ∧ i ≤ e u ∧ S u 1 i 0 = x
/-- the first m moments -/
def M6 (t V m : Int) (S : zV) (T : Int → Int) (L : Int → Int → Int) (B : zB) : Prop := (∀ j, 0 ≤ j → j < m → B 9 t 1 j = T j) ∧ (∀ u j, 0 ≤ u → u < V → 0 ≤ j → j < m → B 9 t (280 + u.toNat) j = L u j) ∧ SI m T ∧ RS m T (aL V S (eM L m)) ∧ LI V S m T L ∧ m ≤ s4E V (eM L m)
theorem eM_0 {L : Int → Int → Int} : eM L 0 = fun _ => -1 := by
  funext u
  unfold eM
  rw [if_pos rfl]
theorem s4E_0 : s4E V (fun _ => -1) = 0 := by
  unfold s4E
  (repeat' split) <;> rfl
theorem eM_b {m u : Int} {T : Int → Int} {L : Int → Int → Int} (hS : SG V S) (h : LI V S m T L) (m0 : 0 ≤ m) (u0 : 0 ≤ u) (u1 : u < V) : -1 ≤ eM L m u ∧ eM L m u < S u 0 0 0 := by
  have g := (hS.2 u u0 u1).1
  unfold eM
  by_cases z : m = 0
  · rw [if_pos z]; omega
  · rw [if_neg z]
    have := (h u (m - 1) u0 u1 (by omega) (by omega)).1
    omega
/-- one moment more -/
theorem M6_s {m v : Int} {T : Int → Int} {L : Int → Int → Int} {B B' : zB} (hS : SG V S) (m0 : 0 ≤ m) (h : M6 t V m S T L B) (hv : 0 ≤ v) (np : NPx S (eM L m) V v) (e1 : ∀ j, 0 ≤ j → j < m → B' 9 t 1 j = B 9 t 1 j) (e2 : B' 9 t 1 m = v) (e3 : ∀ u j, 0 ≤ u → u < V → 0 ≤ j → j < m → B' 9 t (280 + u.toNat) j = B 9 t (280 + u.toNat) j) (e4 : ∀ u, 0 ≤ u → u < V → B' 9 t (280 + u.toNat) m = nxE S (eM L m) v u) : M6 t V (m + 1) S (fun j => if j = m then v else T j) (fun u j => if j = m then nxE S (eM L m) v u else L u j) B' := by
  have hV := hS.1
  obtain ⟨h1, h2, h3, h4, h5, h6⟩ := h
  rcases np with ⟨z, _⟩ | ⟨_, v1, ⟨w, w0, w1, w2, w3⟩, nm⟩
  · omega
  have eb := fun u u0 u1 => eM_b (u := u) hS h5 m0 u0 u1
  -- ahead of this moment all that is told lies below v
  have lo : ∀ u, 0 ≤ u → u < V → 0 < m → S u 1 (eM L m u) 0 ≤ T (m - 1) := fun u u0 u1 mp => by
    unfold eM; rw [if_neg (by omega)]
    exact (h5 u (m - 1) u0 u1 (by omega) (by omega)).2.1
  have up : 0 < m → T (m - 1) < v := fun mp => by
    have := (h5 w (m - 1) w0 w1 (by omega) (by omega)).2.2
    have e : eM L m w = L w (m - 1) := by unfold eM; rw [if_neg (by omega)]
    rw [e] at w2 w3
    have := this w2
    omega
  have en : eM (fun u j => if j = m then nxE S (eM L m) v u else L u j) (m + 1) = nxE S (eM L m) v := by
    funext u
    show (if m + 1 = 0 then -1 else (if m + 1 - 1 = m then nxE S (eM L m) v u else L u (m + 1 - 1))) = nxE S (eM L m) v u
    rw [if_neg (show ¬ m + 1 = 0 by omega), if_pos (show m + 1 - 1 = m by omega)]
  have ne0 : ∀ u, 0 ≤ u → u < V → 0 ≤ nxE S (eM L m) v u ∧ nxE S (eM L m) v u < S u 0 0 0 ∧ eM L m u ≤ nxE S (eM L m) v u := fun u u0 u1 => by
    have b := eb u u0 u1
    unfold nxE
    by_cases z : eM L m u + 1 < S u 0 0 0 ∧ S u 1 (eM L m u + 1) 0 = v
    · rw [if_pos z]; omega
    · rw [if_neg z]
      by_cases zm : m = 0
      · have e : eM L m u = -1 := by unfold eM; rw [if_pos zm]
        have ew : eM L m w = -1 := by unfold eM; rw [if_pos zm]
        rw [e] at z
        rw [ew] at w3
        have g := hS.2 u u0 u1
        have gw := (hS.2 w w0 w1).2.1
        rw [show (-1 : Int) + 1 = 0 by decide] at z w3
        exact absurd ⟨by omega, by rw [g.2.1, ← w3, gw]⟩ z
      · have e : eM L m u = L u (m - 1) := by unfold eM; rw [if_neg zm]
        have := (h5 u (m - 1) u0 u1 (by omega) (by omega)).1
        omega
  refine ⟨fun j j0 j1 => ?_, fun u j u0 u1 j0 j1 => ?_, fun j j0 j1 => ?_, ?_, fun u j u0 u1 j0 j1 => ?_, ?_⟩
  · show B' 9 t 1 j = if j = m then v else T j
    by_cases z : j = m
    · rw [if_pos z, z, e2]
    · rw [if_neg z, e1 j j0 (by omega)]; exact h1 j j0 (by omega)
  · by_cases z : j = m
    · rw [z, e4 u u0 u1]; show nxE S (eM L m) v u = if m = m then nxE S (eM L m) v u else L u m; rw [if_pos rfl]
    · rw [e3 u j u0 u1 j0 (by omega), h2 u j u0 u1 j0 (by omega)]; show L u j = if j = m then nxE S (eM L m) v u else L u j; rw [if_neg z]
  · show (if j = m then v else T j) < if j + 1 = m then v else T (j + 1)
    rw [if_neg (show ¬ j = m by omega)]
    by_cases z : j + 1 = m
    · rw [if_pos z, show j = m - 1 by omega]; exact up (by omega)
    · rw [if_neg z]; exact h3 j j0 (by omega)
  · rw [en]
    intro x
    constructor
    · rintro ⟨j, j0, j1, e⟩
      have e : (if j = m then v else T j) = x := e
      by_cases z : j = m
      · rw [if_pos z] at e
        refine ⟨w, eM L m w + 1, w0, w1, by have := eb w w0 w1; omega, ?_, by rw [w3, e]⟩
        unfold nxE
        rw [if_pos ⟨w2, w3⟩]
        exact Int.le_refl _
      · rw [if_neg z] at e
        obtain ⟨u, i, u0, u1, i0, i1, e'⟩ := (h4 x).mp ⟨j, j0, by omega, e⟩
        have := (ne0 u u0 u1).2.2
        exact ⟨u, i, u0, u1, i0, by omega, e'⟩
    · rintro ⟨u, i, u0, u1, i0, i1, e⟩
      by_cases z : i ≤ eM L m u
      · obtain ⟨j, j0, j1, e'⟩ := (h4 x).mpr ⟨u, i, u0, u1, i0, z, e⟩
        exact ⟨j, j0, by omega, by show (if j = m then v else T j) = x; rw [if_neg (by omega)]; exact e'⟩
      · unfold nxE at i1
        by_cases y : eM L m u + 1 < S u 0 0 0 ∧ S u 1 (eM L m u + 1) 0 = v
        · rw [if_pos y] at i1
          have ei : i = eM L m u + 1 := by omega
          exact ⟨m, m0, by omega, by show (if m = m then v else T m) = x; rw [if_pos rfl, ← e, ei, y.2]⟩
        · rw [if_neg y] at i1; omega
  · by_cases z : j = m
    · rw [z]
      show (0 ≤ (if m = m then nxE S (eM L m) v u else L u m) ∧ (if m = m then nxE S (eM L m) v u else L u m) < S u 0 0 0) ∧ S u 1 (if m = m then nxE S (eM L m) v u else L u m) 0 ≤ (if m = m then v else T m) ∧ ((if m = m then nxE S (eM L m) v u else L u m) + 1 < S u 0 0 0 → (if m = m then v else T m) < S u 1 ((if m = m then nxE S (eM L m) v u else L u m) + 1) 0)
      rw [if_pos rfl, if_pos rfl]
      obtain ⟨n0, n1, n2⟩ := ne0 u u0 u1
      refine ⟨⟨n0, n1⟩, ?_, fun q => ?_⟩
      · by_cases y : eM L m u + 1 < S u 0 0 0 ∧ S u 1 (eM L m u + 1) 0 = v
        · have e : nxE S (eM L m) v u = eM L m u + 1 := by unfold nxE; rw [if_pos y]
          rw [e, y.2]; exact Int.le_refl _
        · have e : nxE S (eM L m) v u = eM L m u := by unfold nxE; rw [if_neg y]
          rw [e] at n0 ⊢
          by_cases zm : m = 0
          · have : eM L m u = -1 := by unfold eM; rw [if_pos zm]
            omega
          · have a1 := lo u u0 u1 (by omega)
            have a2 := up (by omega)
            omega
      · by_cases y : eM L m u + 1 < S u 0 0 0 ∧ S u 1 (eM L m u + 1) 0 = v
        · have e : nxE S (eM L m) v u = eM L m u + 1 := by unfold nxE; rw [if_pos y]
          rw [e] at q ⊢
          have := (hS.2 u u0 u1).2.2.2 (eM L m u + 1) (by have := eb u u0 u1; omega) q
          omega
        · have e : nxE S (eM L m) v u = eM L m u := by unfold nxE; rw [if_neg y]
          rw [e] at q ⊢
          have := nm u u0 u1 q
          have n : ¬ S u 1 (eM L m u + 1) 0 = v := fun k => y ⟨q, k⟩
          omega
    · have := h5 u j u0 u1 j0 (by omega)
      show (0 ≤ (if j = m then nxE S (eM L m) v u else L u j) ∧ (if j = m then nxE S (eM L m) v u else L u j) < S u 0 0 0) ∧ S u 1 (if j = m then nxE S (eM L m) v u else L u j) 0 ≤ (if j = m then v else T j) ∧ ((if j = m then nxE S (eM L m) v u else L u j) + 1 < S u 0 0 0 → (if j = m then v else T j) < S u 1 ((if j = m then nxE S (eM L m) v u else L u j) + 1) 0)
      rw [if_neg z, if_neg z]
      exact this
  · rw [en]
    have := s4E_s (u := w) (e := eM L m) (e' := nxE S (eM L m) v) hV w0 w1 (fun u u0 u1 => (ne0 u u0 u1).2.2) (by unfold nxE; rw [if_pos ⟨w2, w3⟩]; exact Int.le_refl _)
    omega
theorem M6_end {m : Int} {T : Int → Int} {L : Int → Int → Int} {F : zF} {B : zB} (hS : SG V S) (m0 : 0 ≤ m) (m8 : m ≤ 800) (h : M6 t V m S T L B) (h0 : F 9 t 0 = m) (he : ∀ u, 0 ≤ u → u < V → ¬ eM L m u + 1 < S u 0 0 0) : MXc V t S T L F B := by
  obtain ⟨h1, h2, h3, h4, h5, h6⟩ := h
  unfold MXc
  rw [h0]
  refine ⟨h1, h2, ⟨⟨m0, m8⟩, h3, RS_c h4 (fun x => ⟨?_, ?_⟩)⟩, h5⟩
  · rintro ⟨u, i, u0, u1, i0, i1, e⟩
    have := (eM_b (u := u) hS h5 m0 u0 u1).2
    exact ⟨u, i, u0, u1, i0, by omega, e⟩
  · rintro ⟨u, i, u0, u1, i0, i1, e⟩
    have := he u u0 u1
    exact ⟨u, i, u0, u1, i0, by omega, e⟩
theorem C_fm29x {F0 : zF} {B0 : zB} (hK : 60000 ≤ K.1) (hS : SG V S) (h : SCl K V p S F0 B0) (ht : 0 ≤ t ∧ t < K.2 9) : ∀ (d N : Nat) (m : Int) (F : zF) (B : zB) (T : Int → Int) (L : Int → Int → Int), m + d = 800 → 0 ≤ m → d < N → stF t F0 F → stB t B0 B → F 9 t 0 = m → M6 t V m S T L B → (m = 0 → ∀ u, 0 ≤ u → u < V → B 9 t (280 + u.toNat) 0 = -1) → ∃ F' B' T' L', f_Study_findMoments_29 K N m t p F B = some (0, F', B') ∧ stF t F0 F' ∧ stB t B0 B' ∧ MXc V t S T' L' F' B' := by
  have hV := hS.1
  intro d
  induction d with
  | zero =>
    intro N m F B T L md m0 hN f b h0 hM hz
    obtain ⟨n, rfl⟩ : ∃ n, N = n + 1 := ⟨N - 1, by omega⟩
    rw [f_Study_findMoments_29, if_pos ht, if_pos (show r32 m by unfold r32; omega), if_pos (show 800 ≤ m by omega)]
    exact ⟨F, B, T, L, rfl, f, b, M6_end hS m0 (by omega) hM h0 (s4E_e hS (fun u u0 u1 => (eM_b hS hM.2.2.2.2.1 m0 u0 u1).2) (by have := hM.2.2.2.2.2; omega))⟩
  | succ d ih =>
    intro N m F B T L md m0 hN f b h0 hM hz
    obtain ⟨n, rfl⟩ : ∃ n, N = n + 1 := ⟨N - 1, by omega⟩
    have hq := SCl_f h f b
    have zm : 0 ≤ zmax (m - 1) 0 ∧ zmax (m - 1) 0 < 800 := by unfold zmax; split <;> omega
    have he : ∀ u, 0 ≤ u → u < V → B 9 t (280 + u.toNat) (zmax (m - 1) 0) = eM L m u ∧ -1 ≤ eM L m u ∧ eM L m u < S u 0 0 0 := fun u u0 u1 => by
      refine ⟨?_, eM_b hS hM.2.2.2.2.1 m0 u0 u1⟩
      unfold eM zmax
      by_cases z : m = 0
      · rw [if_pos z, if_pos (show m - 1 < 0 by omega)]; exact hz z u u0 u1
      · rw [if_neg z, if_neg (show ¬ m - 1 < 0 by omega)]; exact hM.2.1 u (m - 1) u0 u1 (by omega) (by omega)
    obtain ⟨r, e, np⟩ := C_npx hS hq ht zm he V.toNat K.1 0 (-1) (by omega) (by decide) (by omega) (Or.inl ⟨rfl, fun u' a b => by omega⟩)
    have e' : f_Study_nextPlace K t p (zmax (m - 1) 0) F B = some (r, F, B) := e
    have rb : r64 r := by
      unfold r64
      rcases np with ⟨a1, _⟩ | ⟨a0, a1, _⟩
      · omega
      · omega
    rw [f_Study_findMoments_29, if_pos ht, if_pos (show r32 m by unfold r32; omega), if_neg (show ¬ 800 ≤ m by omega), if_pos (show r32 (m - 1) by unfold r32; omega), e', zb_s, if_pos rb]
    by_cases c : 0 ≤ zcmp r 0
    · have rp : 0 ≤ r := zcmp_o.mp c
      have r1 : r ≤ 1000000000000 := by
        rcases np with ⟨a1, _⟩ | ⟨a0, a1, _⟩
        · omega
        · exact a1
      rw [if_pos c, if_pos (show 0 ≤ m ∧ m < 800 by omega)]
      have hB1 : stB t B (zup4 B 9 t 1 m r) := stB_w
      obtain ⟨B1, x1, x2, x3, x4⟩ := C_fm68x (p := p) (v := r) (j := m) (e := eM L m) (F := F) (rec := f_Study_findMoments_29 K n) hS ht (show 0 ≤ m ∧ m < 800 by omega) ⟨rp, r1⟩ V.toNat K.1 0 (zup4 B 9 t 1 m r) (by omega) (by decide) (by omega) (SCl_f hq stF_r hB1) (fun u' a b => by rw [zup4_v, if_neg (by omega)]; exact he u' a b)
      rw [x1]
      refine ih n (m + 1) _ B1 _ _ (by omega) (by omega) (by omega) (stF_t f (stF_w (by omega))) (stB_t b (stB_t hB1 (fun c y k x nn => x2 c y k x (by omega)))) (by rw [zup3_v, if_pos ⟨rfl, rfl, rfl⟩]) (M6_s hS m0 hM rp np (fun j j0 j1 => by rw [x2 9 t 1 j (by omega), zup4_v, if_neg (by omega)]) (by rw [x2 9 t 1 m (by omega), zup4_v, if_pos ⟨rfl, rfl, rfl, rfl⟩]) (fun u j u0 u1 j0 j1 => by rw [x2 9 t _ j (by omega), zup4_v, if_neg (by omega)]) (fun u u0 u1 => x4 u u0 u1)) (fun z => by omega)
    · rw [if_neg c]
      refine ⟨F, B, T, L, rfl, f, b, M6_end hS m0 (by omega) hM h0 ?_⟩
      rcases np with ⟨_, a2⟩ | ⟨a0, _⟩
      · exact a2
      · exact absurd (zcmp_o.mpr a0) c
theorem C_fm7x {F : zF} (ht : 0 ≤ t ∧ t < K.2 9) : ∀ (d N : Nat) (i : Int) (B : zB), i + d = 4 → 0 ≤ i → d < N → (∀ u, 0 ≤ u → u < i → B 9 t (280 + u.toNat) 0 = -1) → ∃ B', f_Study_findMoments_7 K N i t p F B = f_Study_findMoments_29 K K.1 0 t p F B' ∧ stB t B B' ∧ ∀ u : Int, 0 ≤ u → u < 4 → B' 9 t (280 + u.toNat) 0 = -1 := by
  intro d
  induction d with
  | zero =>
    intro N i B hi i0 hN hz
    obtain ⟨n, rfl⟩ : ∃ n, N = n + 1 := ⟨N - 1, by omega⟩
    rw [f_Study_findMoments_7, if_pos (by unfold r32; omega), if_pos (by omega)]
    exact ⟨B, rfl, stB_r, fun u u0 u1 => hz u u0 (by omega)⟩
  | succ d ih =>
    intro N i B hi i0 hN hz
    obtain ⟨n, rfl⟩ : ∃ n, N = n + 1 := ⟨N - 1, by omega⟩
    rw [f_Study_findMoments_7, if_pos (by unfold r32; omega), if_neg (by omega), if_pos ht, if_pos (by omega)]
    obtain ⟨B', g1, g2, g3⟩ := ih n (i + 1) (zup4 B 9 t (280 + i.toNat) 0 (-1)) (by omega) (by omega) (by omega) (fun u u0 u1 => by
      rw [zup4_v]
      by_cases z : u = i
      · rw [z, if_pos ⟨rfl, rfl, rfl, rfl⟩]
      · rw [if_neg (by omega)]; exact hz u u0 (by omega))
    exact ⟨B', g1, stB_t stB_w g2, g3⟩
theorem C_fmox {F : zF} {B : zB} (hK : 60000 ≤ K.1) (hS : SG V S) (h : SCl K V p S F B) (ht : 0 ≤ t ∧ t < K.2 9) : ∃ F' B' T L, f_Study_findMoments K t p F B = some (0, F', B') ∧ stF t F F' ∧ stB t B B' ∧ MXc V t S T L F' B' := by
  have hV := hS.1
  obtain ⟨B1, e, g1, g2⟩ := C_fm7x (K := K) (p := p) (F := zup3 F 9 t 0 0) ht 4 K.1 0 B (by omega) (by decide) (by omega) (fun u u0 u1 => by omega)
  obtain ⟨F2, B2, T, L, e2, k1, k2, k3⟩ := C_fm29x (F0 := zup3 F 9 t 0 0) (B0 := B1) hK hS (SCl_f h (stF_w (by omega)) g1) ht 800 K.1 0 (zup3 F 9 t 0 0) B1 (fun _ => 0) (fun _ _ => 0) (by omega) (by decide) (by omega) stF_r stB_r (by rw [zup3_v, if_pos ⟨rfl, rfl, rfl⟩]) ⟨fun j j0 j1 => by omega, fun u j _ _ j0 j1 => by omega, fun j j0 j1 => by omega, fun x => ⟨fun ⟨j, j0, j1, _⟩ => by omega, fun ⟨u, i, u0, u1, i0, i1, _⟩ => by unfold eM at i1; rw [if_pos rfl] at i1; omega⟩, fun u j u0 u1 j0 j1 => by omega, by rw [eM_0, s4E_0]; exact Int.le_refl _⟩ (fun _ u u0 u1 => g2 u u0 (by omega))
  unfold f_Study_findMoments
  rw [if_pos ht, e, e2]
  exact ⟨F2, B2, T, L, rfl, stF_t (stF_w (by omega)) k1, stB_t g1 k2, k3⟩
end
end
section
section
/-! ===== study: faults, and the whole look ===== -/
def FSt (t : Int) (F0 : zF) (B0 : zB) (F : zF) (B : zB) : Prop := stF t F0 F ∧ stB t B0 B ∧ SBb t B ∧ (0 ≤ F 9 t 2 ∧ F 9 t 2 ≤ 300) ∧ F 9 t 0 = F0 9 t 0
def FQt (t : Int) (F0 : zF) (B0 : zB) (x : zO) : Prop := ∃ F' B', x = some (0, F', B') ∧ FSt t F0 B0 F' B'
section
variable {K : zK} {V p t : Int} {F0 : zF} {B0 : zB}
theorem C_addF {a b c d : Int} {F : zF} {B : zB} (ht : 0 ≤ t ∧ t < K.2 9) (h : FSt t F0 B0 F B) : FQt t F0 B0 (f_Study_addFault K t a b c d F B) := by
  have h' := h
  obtain ⟨f, b', hS, h2, h0⟩ := h
  unfold f_Study_addFault
  rw [if_pos ht, if_pos (by unfold r32; omega)]
  by_cases z : F 9 t 2 < 300
  · rw [if_pos z, if_pos (by omega)]
    refine ⟨_, _, rfl, stF_t f (stF_w (by omega)), stB_t b' (stB_t stB_w (stB_t stB_w (stB_t stB_w stB_w))), ?_, by rw [zup3_v, if_pos ⟨rfl, rfl, rfl⟩]; omega, by rw [zup3_v, if_neg (by omega)]; exact h0⟩
    exact SB_w (SB_w (SB_w (SB_w hS (by omega) (by omega) (by omega) (by omega) (by omega)) (by omega) (by omega) (by omega) (by omega) (by omega)) (by omega) (by omega) (by omega) (by omega) (by omega)) (by omega) (by omega) (by omega) (by omega) (by omega)
  · rw [if_neg z]; exact ⟨F, B, rfl, h'⟩
theorem C_ff22 {u k j : Int} {rec2 : Int → Int → Int → Int → zF → zB → zO} {rec10 : Int → Int → Int → Int → Int → zF → zB → zO} (ht : 0 ≤ t ∧ t < K.2 9) (V4 : 1 ≤ V ∧ V ≤ 4) (hu : 0 ≤ u ∧ u < V) (hk : r32 k) (go : ∀ F B, FSt t F0 B0 F B → FQt t F0 B0 (rec10 (u + 1) k t V j F B)) : ∀ (d N : Nat) (v : Int) (F : zF) (B : zB), V ≤ v + d → 0 ≤ v → v ≤ 4 → d < N → FSt t F0 B0 F B → FQt t F0 B0 (f_Study_findFaults_22 rec2 rec10 K N v u k t V j F B) := by
  intro d
  induction d with
  | zero =>
    intro N v F B hv v0 v1 hN h
    obtain ⟨n, rfl⟩ : ∃ n, N = n + 1 := ⟨N - 1, by omega⟩
    rw [f_Study_findFaults_22, if_pos (by unfold r32; omega), if_pos (by unfold r32; omega), if_pos (by omega)]
    exact go F B h
  | succ d ih =>
    intro N v F B hv v0 v1 hN h
    obtain ⟨n, rfl⟩ : ∃ n, N = n + 1 := ⟨N - 1, by omega⟩
    rw [f_Study_findFaults_22, if_pos (by unfold r32; omega), if_pos (by unfold r32; omega)]
    by_cases c : V ≤ v
    · rw [if_pos c]; exact go F B h
    obtain ⟨r, F', B', e, rfl, rfl, r01⟩ := s_two (K := K) (t := t) (k := k) (u := u) (v := v) (F := F) (B := B) ht (by omega) (by omega) hk h.2.2.1.2.2
    rw [if_neg c, if_pos ht, e, zb_s, if_pos (by unfold r32; omega)]
    by_cases c1 : r = 0
    · rw [if_pos c1]
      exact ih n (v + 1) F' B' (by omega) (by omega) (by omega) (by omega) h
    · rw [if_neg c1]
      obtain ⟨F1, B1, e1, h1⟩ := C_addF (a := j) (b := k) (c := u) (d := v) ht h
      rw [e1, zb_s]
      exact ih n (v + 1) F1 B1 (by omega) (by omega) (by omega) (by omega) h1
theorem C_ff10 {k j : Int} {rec2 : Int → Int → Int → Int → zF → zB → zO} (hK : 60000 ≤ K.1) (ht : 0 ≤ t ∧ t < K.2 9) (V4 : 1 ≤ V ∧ V ≤ 4) (hk : r32 k) (go : ∀ F B, FSt t F0 B0 F B → FQt t F0 B0 (rec2 (k + 1) t V j F B)) : ∀ (d N : Nat) (u : Int) (F : zF) (B : zB), V ≤ u + d → 0 ≤ u → u ≤ 4 → d < N → FSt t F0 B0 F B → FQt t F0 B0 (f_Study_findFaults_10 rec2 K N u k t V j F B) := by
  intro d
  induction d with
  | zero =>
    intro N u F B hu u0 u1 hN h
    obtain ⟨n, rfl⟩ : ∃ n, N = n + 1 := ⟨N - 1, by omega⟩
    rw [f_Study_findFaults_10, if_pos (by unfold r32; omega), if_pos (by unfold r32; omega), if_pos (by omega)]
    exact go F B h
  | succ d ih =>
    intro N u F B hu u0 u1 hN h
    obtain ⟨n, rfl⟩ : ∃ n, N = n + 1 := ⟨N - 1, by omega⟩
    rw [f_Study_findFaults_10, if_pos (by unfold r32; omega), if_pos (by unfold r32; omega)]
    by_cases c : V ≤ u
    · rw [if_pos c]; exact go F B h
    rw [if_neg c]
    exact C_ff22 ht V4 (by omega) hk (fun F B h => ih n (u + 1) F B (by omega) (by omega) (by omega) (by omega) h) 4 K.1 (u + 1) F B (by omega) (by omega) (by omega) (by omega) h
theorem C_ff79 {k j : Int} {rec : Int → Int → Int → Int → zF → zB → zO} (ht : 0 ≤ t ∧ t < K.2 9) (V4 : 1 ≤ V ∧ V ≤ 4) (hk : r32 k) (go : ∀ F B, FSt t F0 B0 F B → FQt t F0 B0 (rec (k + 1) t V j F B)) : ∀ (d N : Nat) (u : Int) (F : zF) (B : zB), V ≤ u + d → 0 ≤ u → u ≤ 4 → d < N → FSt t F0 B0 F B → FQt t F0 B0 (f_Study_findFaults_79 rec K N u k t V j F B) := by
  intro d
  induction d with
  | zero =>
    intro N u F B hu u0 u1 hN h
    obtain ⟨n, rfl⟩ : ∃ n, N = n + 1 := ⟨N - 1, by omega⟩
    rw [f_Study_findFaults_79, if_pos (by unfold r32; omega), if_pos (by unfold r32; omega), if_pos (by omega)]
    exact go F B h
  | succ d ih =>
    intro N u F B hu u0 u1 hN h
    obtain ⟨n, rfl⟩ : ∃ n, N = n + 1 := ⟨N - 1, by omega⟩
    rw [f_Study_findFaults_79, if_pos (by unfold r32; omega), if_pos (by unfold r32; omega)]
    by_cases c : V ≤ u
    · rw [if_pos c]; exact go F B h
    obtain ⟨r, F', B', e, rfl, rfl, r01⟩ := s_one (K := K) (t := t) (k := k) (u := u) (F := F) (B := B) ht (by omega) hk h.2.2.1.2.2
    rw [if_neg c, if_pos ht, e, zb_s, if_pos (by unfold r32; omega)]
    by_cases c1 : r = 0
    · rw [if_pos c1]
      exact ih n (u + 1) F' B' (by omega) (by omega) (by omega) (by omega) h
    · rw [if_neg c1]
      obtain ⟨F1, B1, e1, h1⟩ := C_addF (a := j) (b := k) (c := u) (d := -1) ht h
      rw [e1, zb_s]
      exact ih n (u + 1) F1 B1 (by omega) (by omega) (by omega) (by omega) h1
theorem C_ff70 {j : Int} (hK : 60000 ≤ K.1) (ht : 0 ≤ t ∧ t < K.2 9) (V4 : 1 ≤ V ∧ V ≤ 4) : ∀ (d N : Nat) (k : Int) (F : zF) (B : zB), 7 ≤ k + d → 0 ≤ k → k ≤ 7 → d < N → FSt t F0 B0 F B → FQt t F0 B0 (f_Study_findFaults_70 K N k t V j F B) := by
  intro d
  induction d with
  | zero =>
    intro N k F B hk k0 k1 hN h
    obtain ⟨n, rfl⟩ : ∃ n, N = n + 1 := ⟨N - 1, by omega⟩
    rw [f_Study_findFaults_70, if_pos (by unfold r32; omega), if_pos (by omega)]
    exact ⟨F, B, rfl, h⟩
  | succ d ih =>
    intro N k F B hk k0 k1 hN h
    obtain ⟨n, rfl⟩ : ∃ n, N = n + 1 := ⟨N - 1, by omega⟩
    rw [f_Study_findFaults_70, if_pos (by unfold r32; omega)]
    by_cases c : 6 < k
    · rw [if_pos c]; exact ⟨F, B, rfl, h⟩
    · rw [if_neg c]
      exact C_ff79 ht V4 (by unfold r32; omega) (fun F B h => ih n (k + 1) F B (by omega) (by omega) (by omega) (by omega) h) 4 K.1 0 F B (by omega) (by decide) (by omega) (by omega) h
theorem C_ff2 {j : Int} (hK : 60000 ≤ K.1) (ht : 0 ≤ t ∧ t < K.2 9) (V4 : 1 ≤ V ∧ V ≤ 4) : ∀ (d N : Nat) (k : Int) (F : zF) (B : zB), 5 ≤ k + d → 0 ≤ k → k ≤ 5 → d < N → FSt t F0 B0 F B → FQt t F0 B0 (f_Study_findFaults_2 K N k t V j F B) := by
  intro d
  induction d with
  | zero =>
    intro N k F B hk k0 k1 hN h
    obtain ⟨n, rfl⟩ : ∃ n, N = n + 1 := ⟨N - 1, by omega⟩
    rw [f_Study_findFaults_2, if_pos (by unfold r32; omega), if_pos (by omega)]
    exact C_ff70 hK ht V4 7 K.1 5 F B (by omega) (by decide) (by omega) (by omega) h
  | succ d ih =>
    intro N k F B hk k0 k1 hN h
    obtain ⟨n, rfl⟩ : ∃ n, N = n + 1 := ⟨N - 1, by omega⟩
    rw [f_Study_findFaults_2, if_pos (by unfold r32; omega)]
    by_cases c : 4 < k
    · rw [if_pos c]
      exact C_ff70 hK ht V4 7 K.1 5 F B (by omega) (by decide) (by omega) (by omega) h
    · rw [if_neg c]
      exact C_ff10 hK ht V4 (by unfold r32; omega) (fun F B h => ih n (k + 1) F B (by omega) (by omega) (by omega) (by omega) h) 4 K.1 0 F B (by omega) (by decide) (by omega) (by omega) h
theorem C_lt12 (hK : 60000 ≤ K.1) (hq : PQs K V p F0 B0) (ht : 0 ≤ t ∧ t < K.2 9) (h0 : 0 ≤ F0 9 t 0 ∧ F0 9 t 0 ≤ 800) : ∀ (d N : Nat) (j : Int) (F : zF) (B : zB), F0 9 t 0 ≤ j + d → 0 ≤ j → j ≤ 800 → d < N → FSt t F0 B0 F B → FQt t F0 B0 (f_Study_lookThrough_12 K N j t p F B) := by
  have V4 := hq.2.1
  intro d
  induction d with
  | zero =>
    intro N j F B hj j0 j1 hN h
    obtain ⟨n, rfl⟩ : ∃ n, N = n + 1 := ⟨N - 1, by omega⟩
    have e0 := h.2.2.2.2
    rw [f_Study_lookThrough_12, if_pos ht, if_pos (by unfold r32; omega), if_pos (by unfold r32; omega), if_pos (by omega)]
    exact ⟨F, B, rfl, h⟩
  | succ d ih =>
    intro N j F B hj j0 j1 hN h
    obtain ⟨n, rfl⟩ : ∃ n, N = n + 1 := ⟨N - 1, by omega⟩
    obtain ⟨f, b, hS, h2, e0⟩ := h
    rw [f_Study_lookThrough_12, if_pos ht, if_pos (by unfold r32; omega), if_pos (by unfold r32; omega)]
    by_cases c : F 9 t 0 ≤ j
    · rw [if_pos c]; exact ⟨F, B, rfl, f, b, hS, h2, e0⟩
    rw [if_neg c, if_pos (by unfold r32; omega)]
    by_cases c1 : 300 ≤ F 9 t 2
    · rw [if_pos c1]; exact ⟨F, B, rfl, f, b, hS, h2, e0⟩
    obtain ⟨B1, e1, g1, g2⟩ := C_tl2 (j := j) (F := F) hK ht (by omega) V.toNat K.1 0 B (by omega) (by decide) (by omega) (PKs_f hq f b) hS
    have e1' : f_Study_takeLines K t p j F B = some (0, F, B1) := e1
    have h1 : FSt t F0 B0 F B1 := ⟨f, stB_t b g1, g2, h2, e0⟩
    have e6 : F 6 p 1 = V := by rw [f 6 p 1 (by omega)]; exact V4.1
    rw [if_neg c1, e1', zb_s]
    unfold f_Study_lookThrough_49
    by_cases c2 : j ≤ 0
    · rw [if_pos c2]
      exact ih n (j + 1) F B1 (by omega) (by omega) (by omega) (by omega) h1
    · obtain ⟨F2, B2, e2, h2'⟩ := C_ff2 (j := j) hK ht V4.2 5 K.1 1 F B1 (by omega) (by decide) (by omega) (by omega) h1
      have e2' : f_Study_findFaults K t V j F B1 = some (0, F2, B2) := e2
      rw [if_neg c2, if_pos hq.1, e6, e2', zb_s]
      exact ih n (j + 1) F2 B2 (by omega) (by omega) (by omega) (by omega) h2'
theorem C_look {F : zF} {B : zB} (hK : 60000 ≤ K.1) (hq : PQs K V p F B) (ht : 0 ≤ t ∧ t < K.2 9) (hS : SBb t B) : ∃ F' B', f_Study_lookThrough K t p F B = some (0, F', B') ∧ stF t F F' ∧ stB t B B' ∧ STu t F' B' := by
  obtain ⟨F1, B1, e1, f1, b1, s1, n0⟩ := C_fmo hK hq ht hS
  have f2 : stF t F1 (zup3 F1 9 t 2 0) := stF_w (by omega)
  obtain ⟨F2, B2, e2, g1, g2, g3, g4, g5⟩ := C_lt12 (F0 := zup3 F1 9 t 2 0) (B0 := B1) hK (PKs_f (PKs_f hq f1 b1) f2 stB_r) ht (by rw [zup3_v, if_neg (by omega)]; exact n0) 800 K.1 0 (zup3 F1 9 t 2 0) B1 (by rw [zup3_v, if_neg (by omega)]; omega) (by decide) (by omega) (by omega) ⟨stF_r, stB_r, s1, by rw [zup3_v, if_pos ⟨rfl, rfl, rfl⟩]; omega, rfl⟩
  unfold f_Study_lookThrough
  rw [if_pos ht, e1, zb_s, e2]
  rw [zup3_v, if_neg (by omega)] at g5
  exact ⟨F2, B2, rfl, stF_t f1 (stF_t f2 g1), stB_t b1 g2, by omega, g4, g3⟩
end
end
end
section
section
/-! ===== study: lines and faults, class, exactly ===== -/
theorem fm12w : ∀ x : Fin 300, fmB ((x.val : Int) - 140) 12 = true := by decide +kernel
theorem fm7w : ∀ x : Fin 140, fmB ((x.val : Int) - 70) 7 = true := by decide +kernel
theorem C_m12w {K : zK} {a : Int} {F : zF} {B : zB} (h : -140 ≤ a ∧ a < 160) : f_Math_floorMod K a 12 F B = some (a % 12, F, B) := by
  have := fm12w ⟨(a + 140).toNat, by omega⟩
  rw [show (((⟨(a + 140).toNat, by omega⟩ : Fin 300).val : Nat) : Int) - 140 = a by show (((a + 140).toNat : Nat) : Int) - 140 = a; omega] at this
  exact C_fmB (by decide) (by decide) this
theorem C_m7w {K : zK} {a : Int} {F : zF} {B : zB} (h : -70 ≤ a ∧ a < 70) : f_Math_floorMod K a 7 F B = some (a % 7, F, B) := by
  have := fm7w ⟨(a + 70).toNat, by omega⟩
  rw [show (((⟨(a + 70).toNat, by omega⟩ : Fin 140).val : Nat) : Int) - 70 = a by show (((a + 70).toNat : Nat) : Int) - 70 = a; omega] at this
  exact C_fmB (by decide) (by decide) this
theorem z9_t : ∀ k : Fin 7, ∀ q : Fin 12, ((q.val : Int) < ztv 9 (k.val : Int) ∨ ztv 10 (k.val : Int) < (q.val : Int)) ↔ plV (k.val : Int) (q.val : Int) = 0 := by decide +kernel
theorem z9_u {s q : Int} (s0 : 0 ≤ s ∧ s < 7) (q0 : 0 ≤ q ∧ q < 12) : (q < ztv 9 s ∨ ztv 10 s < q) ↔ plV s q = 0 := by
  have k := z9_t ⟨s.toNat, by omega⟩ ⟨q.toNat, by omega⟩
  rw [show (((⟨s.toNat, by omega⟩ : Fin 7).val : Nat) : Int) = s by show ((s.toNat : Nat) : Int) = s; omega, show (((⟨q.toNat, by omega⟩ : Fin 12).val : Nat) : Int) = q by show ((q.toNat : Nat) : Int) = q; omega] at k
  exact k
section
variable {K : zK} {F : zF} {B : zB}
theorem C_consx {a b c d : Int} (ha : 0 ≤ a ∧ a ≤ 62) (hb : 0 ≤ b ∧ b ≤ 127) (hc : 0 ≤ c ∧ c ≤ 62) (hd : 0 ≤ d ∧ d ≤ 127) : f_Study_consonance K a b c d F B = some (pcV a b c d, F, B) := by
  have d1 : r32 (1 : Int) := by decide
  have d0 : r32 (0 : Int) := by decide
  have key : ∀ x y : Int, (-62 ≤ x ∧ x ≤ 62) → y = zabs (b - d) → f_Study_consonance_26 K b d x F B = some (if x % 7 = 0 ∧ y % 12 = 0 then 1 else if x % 7 = 4 ∧ y % 12 = 7 then 2 else 0, F, B) := fun x y hx hy => by
    have yb : 0 ≤ y ∧ y ≤ 127 := by rw [hy]; unfold zabs; split <;> omega
    have ez : zrm y 12 = y % 12 := zrm_e yb.1 (by unfold r32; omega) (by decide) (by decide)
    have m7 : 0 ≤ x % 7 ∧ x % 7 < 7 := by omega
    have m12 : 0 ≤ y % 12 ∧ y % 12 < 12 := by omega
    unfold f_Study_consonance_26 f_Study_consonance_56 f_Study_consonance_73 f_Study_consonance_74
    rw [C_m7w (by omega), zb_s, if_pos (show r32 (b - d) by unfold r32; omega), ← hy, ez]
    generalize x % 7 = p at m7 ⊢
    generalize y % 12 = q at m12 ⊢
    have rp : r32 p := by unfold r32; omega
    have rq : r32 q := by unfold r32; omega
    by_cases c1 : p = 0
    · by_cases c2 : q = 0
      · rw [if_pos rp, if_pos c1, if_pos rq, if_pos c2, if_pos ⟨c1, c2⟩]
      · rw [if_pos rp, if_pos c1, if_pos rq, if_neg c2, if_pos rp, if_neg (show ¬ p = 4 by omega), if_neg (show ¬ (p = 0 ∧ q = 0) from fun z => c2 z.2), if_neg (show ¬ (p = 4 ∧ q = 7) by omega)]
    · rw [if_pos rp, if_neg c1, if_pos rp, if_neg (show ¬ (p = 0 ∧ q = 0) from fun z => c1 z.1)]
      by_cases c3 : p = 4
      · by_cases c4 : q = 7
        · rw [if_pos c3, if_pos rq, if_pos c4, if_pos ⟨c3, c4⟩]
        · rw [if_pos c3, if_pos rq, if_neg c4, if_neg (show ¬ (p = 4 ∧ q = 7) from fun z => c4 z.2)]
      · rw [if_neg c3, if_neg (show ¬ (p = 4 ∧ q = 7) from fun z => c3 z.1)]
  unfold f_Study_consonance f_Study_consonance_10 pcV
  rw [if_pos (show r32 d by unfold r32; omega), if_pos (show r32 b by unfold r32; omega)]
  by_cases c1 : b < d
  · rw [if_neg (show ¬ d ≤ b by omega), if_pos d1, if_neg (show ¬ (1 : Int) = 0 by decide), if_pos c1, if_pos c1]
    exact key (c - a) (d - b) (by omega) (by unfold zabs; rw [if_neg (by omega)]; omega)
  · rw [if_pos (show d ≤ b by omega), if_pos d0, if_pos (show (0 : Int) = 0 from rfl), if_neg c1, if_neg c1]
    exact key (a - c) (b - d) (by omega) (by unfold zabs; rw [if_pos (by omega)])
/-- a line's tone and step, or none -/
def lnB (t s : Int) : Prop := (t = -1 ∧ s = -1) ∨ ((0 ≤ t ∧ t ≤ 127) ∧ 0 ≤ s ∧ s ≤ 62)
theorem lnB_r {t s : Int} (h : lnB t s) : (-1 ≤ t ∧ t ≤ 127) ∧ (-1 ≤ s ∧ s ≤ 62) ∧ (0 ≤ t → 0 ≤ s) := by unfold lnB at h; omega
theorem C_onex {t k u su tu su' tu' bu : Int} (ht : 0 ≤ t ∧ t < K.2 9) (hu : 0 ≤ u ∧ u < 4) (hk : k = 5 ∨ k = 6) (e5 : B 9 t 5 u = su) (e6 : B 9 t 6 u = tu) (e7 : B 9 t 7 u = su') (e8 : B 9 t 8 u = tu') (e9 : B 9 t 9 u = bu) (l : lnB tu su) (l' : lnB tu' su') (hb : bu = 0 ∨ bu = 1) : f_Study_isFaultOfOne K t k u F B = some (q1V k su tu su' tu' bu, F, B) := by
  have r := lnB_r l
  have r' := lnB_r l'
  have no : ¬ (0 ≤ tu ∧ 0 ≤ tu' ∧ bu = 1) → q1V k su tu su' tu' bu = 0 := fun z => by unfold q1V; rw [if_neg z]
  unfold f_Study_isFaultOfOne f_Study_isFaultOfOne_29
  rw [if_pos ht, if_pos hu, e5, e6, e7, e8, e9, if_pos (show r32 bu by unfold r32; omega)]
  by_cases c1 : bu = 0
  · rw [if_pos c1, no (by omega)]
  rw [if_neg c1, if_pos (show r32 tu by unfold r32; omega)]
  by_cases c2 : tu = -1
  · rw [if_pos c2, no (by omega)]
  rw [if_neg c2, if_pos (show r32 tu' by unfold r32; omega)]
  by_cases c3 : tu' = -1
  · rw [if_pos c3, no (by omega)]
  rw [if_neg c3, if_pos (show r32 (su - su') by unfold r32; omega), if_pos (show r32 k by unfold r32; omega)]
  have yes : 0 ≤ tu ∧ 0 ≤ tu' ∧ bu = 1 := by omega
  have ea : zabs (su - su') = if su < su' then su' - su else su - su' := by
    unfold zabs
    by_cases z : su < su'
    · rw [if_pos z, if_neg (by omega)]; omega
    · rw [if_neg z, if_pos (by omega)]
  have gb : 0 ≤ (if su < su' then su' - su else su - su') ∧ (if su < su' then su' - su else su - su') ≤ 62 := by split <;> omega
  unfold q1V
  rw [if_pos yes, ea]
  generalize hg : (if su < su' then su' - su else su - su') = g at gb ⊢
  by_cases c4 : k = 5
  · unfold f_Study_isFaultOfOne_64
    rw [if_pos c4, if_pos (show r32 g by unfold r32; omega), if_pos c4]
    by_cases c5 : g ≤ 7
    · rw [if_pos c5, if_pos (Or.inl rfl), if_neg (show ¬ 7 < g by omega)]
    · rw [if_neg c5, if_pos (Or.inr rfl), if_pos (show 7 < g by omega)]
  rw [if_neg c4, if_pos (show r32 su by unfold r32; omega), if_pos (show r32 su' by unfold r32; omega), if_neg c4]
  have z7 : zrm g 7 = g % 7 := zrm_e gb.1 (by unfold r32; omega) (by decide) (by decide)
  have m7 : 0 ≤ g % 7 ∧ g % 7 < 7 := by omega
  have o125 : ∀ h h' : Int, h = h' → (-127 ≤ h ∧ h ≤ 127) → f_Study_isFaultOfOne_125 K g h F B = some (if plV (g % 7) (h' % 12) = 0 then 1 else 0, F, B) := fun h h' eh hh => by
    have m12 : 0 ≤ h % 12 ∧ h % 12 < 12 := by omega
    have v9 := z9_v (g % 7) m7.1 m7.2
    have v10 := z10_v (g % 7) m7.1 m7.2
    have pl := z9_u m7 m12
    rw [← eh]
    unfold f_Study_isFaultOfOne_125 f_Study_isFaultOfOne_162 f_Study_isFaultOfOne_167
    rw [C_m12w (by omega), zb_s, z7, z9_l, z10_l, if_pos m7, if_pos (show r32 (h % 12) by unfold r32; omega), if_pos v9]
    by_cases y : h % 12 < ztv 9 (g % 7)
    · rw [if_pos y, if_pos (Or.inr rfl), if_pos (pl.mp (Or.inl y))]
    rw [if_neg y, if_pos m7, if_pos v10]
    by_cases y' : h % 12 ≤ ztv 10 (g % 7)
    · rw [if_pos y', if_pos (Or.inl rfl), if_neg (fun k => by have := pl.mpr k; omega)]
    · rw [if_neg y', if_pos (Or.inr rfl), if_pos (pl.mp (Or.inr (by omega)))]
  unfold f_Study_isFaultOfOne_109
  by_cases c5 : su ≤ su'
  · rw [if_pos c5, if_pos (show r32 g by unfold r32; omega)]
    by_cases c6 : g = 0
    · have es : su = su' := by
        by_cases z : su < su'
        · rw [if_pos z] at hg; omega
        · omega
      rw [if_pos c6, if_pos (show r32 (tu' - tu) by unfold r32; omega)]
      refine o125 _ _ ?_ ?_
      · unfold zabs
        by_cases z : tu < tu'
        · rw [if_pos (show 0 ≤ tu' - tu by omega), if_pos (show su < su' ∨ (su = su' ∧ tu < tu') from Or.inr ⟨es, z⟩)]
        · rw [if_neg (show ¬ (su < su' ∨ (su = su' ∧ tu < tu')) by omega)]
          by_cases z' : 0 ≤ tu' - tu
          · rw [if_pos z']; omega
          · rw [if_neg z']; omega
      · unfold zabs; split <;> omega
    · have es : su < su' := by
        by_cases z : su < su'
        · exact z
        · rw [if_neg z] at hg; omega
      rw [if_neg c6]
      exact o125 _ _ (by rw [if_pos (show su < su' ∨ (su = su' ∧ tu < tu') from Or.inl es)]) (by omega)
  · have ng : ¬ g = 0 := by rw [if_neg (show ¬ su < su' by omega)] at hg; omega
    rw [if_neg c5, if_pos (show r32 g by unfold r32; omega), if_neg ng]
    exact o125 _ _ (by rw [if_neg (show ¬ (su < su' ∨ (su = su' ∧ tu < tu')) by omega)]) (by omega)
theorem q2V_z {k su tu sv tv su' tu' sv' tv' bu bv : Int} (z : tu < 0 ∨ tv < 0) : q2V k su tu sv tv su' tu' sv' tv' bu bv = 0 := by
  unfold q2V
  by_cases c : k = 4
  · have e : ovV tu tv = 0 := by unfold ovV; rw [if_neg (by omega)]
    rw [if_pos c, e, if_neg (fun y => absurd y.1 (by decide))]
  · rw [if_neg c]
    unfold q3V
    rw [if_neg (by omega)]
theorem C_twox {t k u v su tu sv tv su' tu' sv' tv' bu bv : Int} (ht : 0 ≤ t ∧ t < K.2 9) (hu : 0 ≤ u ∧ u < 4) (hv : 0 ≤ v ∧ v < 4) (hk : 1 ≤ k ∧ k ≤ 4) (e5 : B 9 t 5 u = su) (e6 : B 9 t 6 u = tu) (e7 : B 9 t 7 u = su') (e8 : B 9 t 8 u = tu') (e9 : B 9 t 9 u = bu) (f5 : B 9 t 5 v = sv) (f6 : B 9 t 6 v = tv) (f7 : B 9 t 7 v = sv') (f8 : B 9 t 8 v = tv') (f9 : B 9 t 9 v = bv) (lu : lnB tu su) (lu' : lnB tu' su') (lv : lnB tv sv) (lv' : lnB tv' sv') (hb : bu = 0 ∨ bu = 1) (hb' : bv = 0 ∨ bv = 1) : f_Study_isFaultOfTwo K t k u v F B = some (q2V k su tu sv tv su' tu' sv' tv' bu bv, F, B) := by
  have ru := lnB_r lu
  have ru' := lnB_r lu'
  have rv := lnB_r lv
  have rv' := lnB_r lv'
  have d1 : r32 (1 : Int) := by decide
  have d0 : r32 (0 : Int) := by decide
  have rtu : r32 tu := by unfold r32; omega
  have rtv : r32 tv := by unfold r32; omega
  have rtu' : r32 tu' := by unfold r32; omega
  have rtv' : r32 tv' := by unfold r32; omega
  have rk : r32 k := by unfold r32; omega
  unfold f_Study_isFaultOfTwo f_Study_isFaultOfTwo_20 f_Study_isFaultOfTwo_46
  rw [if_pos ht, if_pos hu, e6, if_pos rtu]
  by_cases c1 : tu = -1
  · rw [if_pos c1, q2V_z (Or.inl (by omega))]
  rw [if_neg c1, if_pos hv, f6, if_pos rtv]
  by_cases c2 : tv = -1
  · rw [if_pos c2, q2V_z (Or.inr (by omega))]
  have u0 : 0 ≤ tu := by omega
  have v0 : 0 ≤ tv := by omega
  have o47 : ∀ s : Int, ((s = 1 ∧ 0 ≤ tu' ∧ 0 ≤ tv') ∨ (s = 0 ∧ (tu' < 0 ∨ tv' < 0))) → f_Study_isFaultOfTwo_47 K t k u v s F B = some (q2V k su tu sv tv su' tu' sv' tv' bu bv, F, B) := fun s hs => by
    have rs : r32 s := by unfold r32; omega
    unfold f_Study_isFaultOfTwo_47 f_Study_isFaultOfTwo_129 q2V
    rw [if_pos rk]
    by_cases c4 : k = 4
    · unfold f_Study_isFaultOfTwo_89 f_Study_isFaultOfTwo_93 f_Study_isFaultOfTwo_94
      rw [if_pos c4, if_pos ht, if_pos hv, if_pos hu, f6, e6, if_pos rtv, if_pos rtu, if_pos c4]
      unfold ovV
      by_cases c5 : tv ≤ tu
      · rw [if_pos c5, if_pos (Or.inl rfl), if_neg (show ¬ (0 ≤ tu ∧ 0 ≤ tv ∧ tu < tv) by omega), if_neg (fun y => absurd y.1 (by decide))]
      rw [if_neg c5, if_pos rs, if_pos (show 0 ≤ tu ∧ 0 ≤ tv ∧ tu < tv by omega)]
      by_cases c6 : s = 0
      · rw [if_pos c6, if_pos (Or.inr rfl), if_neg (show ¬ (0 ≤ tu' ∧ 0 ≤ tv' ∧ tu' < tv') by omega), if_pos ⟨rfl, rfl⟩]
      rw [if_neg c6, f8, e8, if_pos rtv', if_pos rtu']
      by_cases c7 : tu' < tv'
      · rw [if_pos c7, if_pos (Or.inl rfl), if_pos (show 0 ≤ tu' ∧ 0 ≤ tv' ∧ tu' < tv' by omega), if_neg (fun y => absurd y.2 (by decide))]
      · rw [if_neg c7, if_pos (Or.inr rfl), if_neg (show ¬ (0 ≤ tu' ∧ 0 ≤ tv' ∧ tu' < tv') by omega), if_pos ⟨rfl, rfl⟩]
    rw [if_neg c4, if_neg c4]
    have no : ¬ (0 ≤ tu ∧ 0 ≤ tv ∧ 0 ≤ tu' ∧ 0 ≤ tv' ∧ bu = 1 ∧ bv = 1 ∧ ((tu' < tu ∧ tv' < tv) ∨ (tu < tu' ∧ tv < tv'))) → q3V k su tu sv tv su' tu' sv' tv' bu bv = 0 := fun z => by unfold q3V; rw [if_neg z]
    -- both lines go the same way
    have o204 : (0 ≤ tu ∧ 0 ≤ tv ∧ 0 ≤ tu' ∧ 0 ≤ tv' ∧ bu = 1 ∧ bv = 1 ∧ ((tu' < tu ∧ tv' < tv) ∨ (tu < tu' ∧ tv < tv'))) → f_Study_isFaultOfTwo_204 K t k u v F B = some (q3V k su tu sv tv su' tu' sv' tv' bu bv, F, B) := fun z => by
      have pb := pcV_b (su := su) (tu := tu) (sv := sv) (tv := tv)
      have pb' := pcV_b (su := su') (tu := tu') (sv := sv') (tv := tv')
      unfold f_Study_isFaultOfTwo_204 f_Study_isFaultOfTwo_283 f_Study_isFaultOfTwo_284 q3V
      rw [if_pos ht, if_pos hu, if_pos hv, e5, e6, f5, f6, C_consx (by omega) (by omega) (by omega) (by omega), zb_s, e7, e8, f7, f8, C_consx (by omega) (by omega) (by omega) (by omega), zb_s, if_pos rk, if_pos z, f6, e6]
      generalize pcV su tu sv tv = p at pb ⊢
      generalize pcV su' tu' sv' tv' = q at pb' ⊢
      have o305 : ∀ (x g : Int), (0 ≤ x ∧ x < 4) → B 9 t 5 x - B 9 t 7 x = g → (-62 ≤ g ∧ g ≤ 62) → f_Study_isFaultOfTwo_305 K q p t x F B = some (if 0 < p ∧ ¬ q = p ∧ (2 < g ∨ g < -2) then 1 else 0, F, B) := fun x g hx eg hg => by
        unfold f_Study_isFaultOfTwo_305 f_Study_isFaultOfTwo_345 f_Study_isFaultOfTwo_346
        rw [if_pos (show r32 p by unfold r32; omega)]
        by_cases y1 : p = 0
        · rw [if_pos y1, if_pos (Or.inl rfl), if_neg (by omega)]
        rw [if_neg y1, if_pos (show r32 q by unfold r32; omega)]
        by_cases y2 : p = q
        · rw [if_pos y2, if_pos (Or.inl rfl), if_neg (by omega)]
        have ab : (zabs g ≤ 2 ↔ ¬ (2 < g ∨ g < -2)) ∧ r32 (zabs g) := by unfold zabs r32; split <;> omega
        rw [if_neg y2, if_pos ht, if_pos hx, eg, if_pos (show r32 g by unfold r32; omega), if_pos ab.2]
        by_cases y3 : zabs g ≤ 2
        · rw [if_pos y3, if_pos (Or.inl rfl), if_neg (fun y => ab.1.mp y3 y.2.2)]
        · have y4 : 2 < g ∨ g < -2 := by
            by_cases y : 2 < g ∨ g < -2
            · exact y
            · exact absurd (ab.1.mpr y) y3
          rw [if_neg y3, if_pos (Or.inr rfl), if_pos ⟨by omega, by omega, y4⟩]
      by_cases c7 : 3 ≤ k
      · rw [if_pos c7, if_pos rtv, if_pos rtu, if_neg (show ¬ k < 3 by omega)]
        by_cases c8 : tu < tv
        · rw [if_neg (show ¬ tv ≤ tu by omega), o305 v (sv - sv') hv (by rw [f5, f7]) (by omega), if_pos c8]
        · rw [if_pos (show tv ≤ tu by omega), o305 u (su - su') hu (by rw [e5, e7]) (by omega), if_neg c8]
      · rw [if_neg c7, if_pos (show r32 p by unfold r32; omega), if_pos (show k < 3 by omega)]
        by_cases c8 : p = k
        · rw [if_pos c8, if_pos (show r32 q by unfold r32; omega)]
          by_cases c9 : q = k
          · rw [if_pos c9, if_pos (Or.inr rfl), if_pos ⟨c8, c9⟩]
          · rw [if_neg c9, if_pos (Or.inl rfl), if_neg (fun y => c9 y.2)]
        · rw [if_neg c8, if_pos (Or.inl rfl), if_neg (fun y => c8 y.1)]
    have o167 : ∀ r f : Int, ((r = 1 ∧ (tu' < tu ∧ tv' < tv)) ∨ (r = 0 ∧ ¬ (tu' < tu ∧ tv' < tv))) → ((f = 1 ∧ (tu < tu' ∧ tv < tv')) ∨ (f = 0 ∧ ¬ (tu < tu' ∧ tv < tv'))) → f_Study_isFaultOfTwo_167 K r s t k u v f F B = some (q3V k su tu sv tv su' tu' sv' tv' bu bv, F, B) := fun r f hr hf => by
      unfold f_Study_isFaultOfTwo_167 f_Study_isFaultOfTwo_202
      rw [if_pos rs]
      by_cases y1 : s = 0
      · rw [if_pos y1, no (by omega)]
      rw [if_neg y1, if_pos ht, if_pos hu, e9, if_pos (show r32 bu by unfold r32; omega)]
      by_cases y2 : bu = 0
      · rw [if_pos y2, no (by omega)]
      rw [if_neg y2, if_pos hv, f9, if_pos (show r32 bv by unfold r32; omega)]
      by_cases y3 : bv = 0
      · rw [if_pos y3, no (by omega)]
      rw [if_neg y3, if_pos (show r32 r by unfold r32; omega)]
      by_cases y4 : r = 0
      · rw [if_pos y4, if_pos (show r32 f by unfold r32; omega)]
        by_cases y5 : f = 0
        · rw [if_pos y5, no (by omega)]
        · rw [if_neg y5]; exact o204 (by omega)
      · rw [if_neg y4]; exact o204 (by omega)
    have o130 : ∀ r : Int, ((r = 1 ∧ (tu' < tu ∧ tv' < tv)) ∨ (r = 0 ∧ ¬ (tu' < tu ∧ tv' < tv))) → f_Study_isFaultOfTwo_130 K s t k u v r F B = some (q3V k su tu sv tv su' tu' sv' tv' bu bv, F, B) := fun r hr => by
      unfold f_Study_isFaultOfTwo_130 f_Study_isFaultOfTwo_166
      rw [if_pos ht, if_pos hu, e6, e8, if_pos rtu, if_pos rtu']
      by_cases y1 : tu' ≤ tu
      · rw [if_pos y1]; exact o167 r 0 hr (by omega)
      rw [if_neg y1, if_pos hv, f6, f8, if_pos rtv, if_pos rtv']
      by_cases y2 : tv' ≤ tv
      · rw [if_pos y2]; exact o167 r 0 hr (by omega)
      · rw [if_neg y2]; exact o167 r 1 hr (by omega)
    rw [if_pos ht, if_pos hu, e6, e8, if_pos rtu, if_pos rtu']
    by_cases y1 : tu ≤ tu'
    · rw [if_pos y1]; exact o130 0 (by omega)
    rw [if_neg y1, if_pos hv, f6, f8, if_pos rtv, if_pos rtv']
    by_cases y2 : tv ≤ tv'
    · rw [if_pos y2]; exact o130 0 (by omega)
    · rw [if_neg y2]; exact o130 1 (by omega)
  rw [if_neg c2, e8, if_pos rtu']
  by_cases c3 : tu' = -1
  · rw [if_pos c3]; exact o47 0 (by omega)
  rw [if_neg c3, f8, if_pos rtv']
  by_cases c4 : tv' = -1
  · rw [if_pos c4]; exact o47 0 (by omega)
  · rw [if_neg c4]; exact o47 1 (by omega)
end
section
variable {K : zK} {V p t : Int} {S : zV}
theorem C_topx {u i : Int} {F : zF} {B : zB} (hS : SG V S) (h : SCl K V p S F B) (u0 : 0 ≤ u) (u1 : u < V) (i0 : 0 ≤ i) (i1 : i < S u 0 0 0) : ∀ (d N : Nat) (j l : Int), j + d = S u 2 i 0 → 0 ≤ j → d < N → -1 ≤ l → l < j → f_Event_top_4 K N j l (B 4 (B 6 p 0 u) 5 i) F B = some (tpN (tnS S u i) d j l, F, B) := by
  obtain ⟨_, _, q2⟩ := h.2.2 u u0 u1
  obtain ⟨he, _, e10, ep⟩ := q2 i i0 i1
  obtain ⟨_, c6, gp⟩ := (hS.2 u u0 u1).2.2.1 i i0 i1
  generalize B 4 (B 6 p 0 u) 5 i = e at he e10 ep ⊢
  intro d
  induction d with
  | zero =>
    intro N j l jd j0 hN l0 l1
    obtain ⟨n, rfl⟩ : ∃ n, N = n + 1 := ⟨N - 1, by omega⟩
    rw [f_Event_top_4, if_pos he, if_pos (show r32 j by unfold r32; omega), e10, if_pos (show r32 (S u 2 i 0) by unfold r32; omega), if_pos (show S u 2 i 0 ≤ j by omega), tpN]
  | succ d ih =>
    intro N j l jd j0 hN l0 l1
    obtain ⟨n, rfl⟩ : ∃ n, N = n + 1 := ⟨N - 1, by omega⟩
    have a := ih n (j + 1) j (by omega) (by omega) (by omega) (by omega) (by omega)
    rw [f_Event_top_4, if_pos he, if_pos (show r32 j by unfold r32; omega), e10, if_pos (show r32 (S u 2 i 0) by unfold r32; omega), if_neg (show ¬ S u 2 i 0 ≤ j by omega), if_pos (show r32 l by unfold r32; omega), tpN]
    by_cases c : l = -1
    · rw [if_pos c, if_pos c, f_Event_top_30, f_Event_top_32]
      exact a
    · have b := ih n (j + 1) l (by omega) (by omega) (by omega) (by omega) (by omega)
      obtain ⟨p1, p2⟩ := ep j j0 (by omega)
      obtain ⟨q1, q2⟩ := ep l (by omega) (by omega)
      obtain ⟨s1, s2⟩ := gp j j0 (by omega)
      obtain ⟨t1, t2⟩ := gp l (by omega) (by omega)
      have m1 := tnv_r s1.1 s1.2 s2.1 s2.2
      have m2 := tnv_r t1.1 t1.2 t2.1 t2.2
      rw [if_neg c, if_neg c, C_tone he (by omega) (by rw [p1]; exact s1), zb_s, C_tone he (by omega) (by rw [q1]; exact t1), zb_s, p1, p2, q1, q2, if_pos (show r32 (tnv (S u 3 i j) + S u 4 i j) by unfold r32; omega), if_pos (show r32 (tnv (S u 3 i l) + S u 4 i l) by unfold r32; omega)]
      by_cases c1 : tnS S u i j < tnS S u i l
      · have c2 : tnv (S u 3 i j) + S u 4 i j < tnv (S u 3 i l) + S u 4 i l := c1
        rw [if_pos c1, if_pos c2, f_Event_top_32]
        exact b
      · have c2 : ¬ tnv (S u 3 i j) + S u 4 i j < tnv (S u 3 i l) + S u 4 i l := c1
        rw [if_neg c1, if_neg c2, f_Event_top_30, f_Event_top_32]
        exact a
/-- the lines that are taken: 5 steps, 6 tones, 7 8 the old ones, 9 whether it begins -/
def m59 (t : Int) (B B' : zB) : Prop := ∀ c y k x, ¬ (c = 9 ∧ y = t ∧ 5 ≤ k ∧ k ≤ 9) → B' c y k x = B c y k x
theorem C_tl2x {j : Int} {T : Int → Int} {L : Int → Int → Int} {F : zF} (hK : 60000 ≤ K.1) (hS : SG V S) (ht : 0 ≤ t ∧ t < K.2 9) (hj : 0 ≤ j ∧ j < 800) (hT : 0 ≤ T j ∧ T j ≤ 1000000000000) : ∀ (d N : Nat) (u : Int) (B : zB), u + d = V → 0 ≤ u → d < N → SCl K V p S F B → B 9 t 1 j = T j → (∀ u', 0 ≤ u' → u' < V → B 9 t (280 + u'.toNat) j = L u' j ∧ 0 ≤ L u' j ∧ L u' j < S u' 0 0 0) → ∃ B', f_Study_takeLines_2 K N u t p j F B = some (0, F, B') ∧ m59 t B B' ∧ (∀ k x, 5 ≤ k → k ≤ 9 → 0 ≤ x → x < u → B' 9 t k x = B 9 t k x) ∧ ∀ u', u ≤ u' → u' < V → B' 9 t 5 u' = lS S u' (L u' j) ∧ B' 9 t 6 u' = lT S u' (L u' j) ∧ B' 9 t 7 u' = B 9 t 5 u' ∧ B' 9 t 8 u' = B 9 t 6 u' ∧ B' 9 t 9 u' = if S u' 1 (L u' j) 0 = T j then 1 else 0 := by
  have hV := hS.1
  intro d
  induction d with
  | zero =>
    intro N u B hu u0 hN h h1 hL
    obtain ⟨n, rfl⟩ : ∃ n, N = n + 1 := ⟨N - 1, by omega⟩
    rw [f_Study_takeLines_2, if_pos h.1, if_pos (show r32 u by unfold r32; omega), h.2.1, if_pos (show r32 V by unfold r32; omega), if_pos (show V ≤ u by omega)]
    exact ⟨B, rfl, fun _ _ _ _ _ => rfl, fun _ _ _ _ _ _ => rfl, fun u' a b => by omega⟩
  | succ d ih =>
    intro N u B hu u0 hN h h1 hL
    obtain ⟨n, rfl⟩ : ∃ n, N = n + 1 := ⟨N - 1, by omega⟩
    have h' := h
    obtain ⟨hp, hV1, h3⟩ := h
    have u1 : u < V := by omega
    obtain ⟨q0, q1, q2⟩ := h3 u u0 u1
    obtain ⟨l1, l2, l3⟩ := hL u u0 u1
    obtain ⟨g1, _, g3, _⟩ := hS.2 u u0 u1
    obtain ⟨he, e0, e10, ep⟩ := q2 (L u j) l2 l3
    obtain ⟨pl, c6, gp⟩ := g3 (L u j) l2 l3
    have hu4 : 0 ≤ u ∧ u < 4 := by omega
    have ev : f_Study_eventOf K t p u j F B = some (B 4 (B 6 p 0 u) 5 (L u j), F, B) := by
      unfold f_Study_eventOf f_Study_eventOf_45
      rw [if_pos ht, if_pos hu4, if_pos hj, l1, if_pos (show r32 (L u j) by unfold r32; omega), if_neg (show ¬ L u j < 0 by omega), if_pos hp, if_pos q0, q1, if_pos (show r32 (S u 0 0 0) by unfold r32; omega), if_pos l3, if_pos (show 0 ≤ L u j ∧ L u j < 200 by omega)]
    have e6 : (zup4 B 9 t 7 u (B 9 t 5 u)) 9 t 6 u = B 9 t 6 u := by rw [zup4_v, if_neg (by omega)]
    have f2 : ∀ c y k x, ¬ (c = 9 ∧ y = t ∧ (k = 7 ∨ k = 8) ∧ x = u) → (zup4 (zup4 B 9 t 7 u (B 9 t 5 u)) 9 t 8 u (B 9 t 6 u)) c y k x = B c y k x := fun c y k x nn => by rw [zup4_v, if_neg (by omega), zup4_v, if_neg (by omega)]
    have a7 : (zup4 (zup4 B 9 t 7 u (B 9 t 5 u)) 9 t 8 u (B 9 t 6 u)) 9 t 7 u = B 9 t 5 u := by rw [zup4_v, if_neg (by omega), zup4_v, if_pos ⟨rfl, rfl, rfl, rfl⟩]
    have a8 : (zup4 (zup4 B 9 t 7 u (B 9 t 5 u)) 9 t 8 u (B 9 t 6 u)) 9 t 8 u = B 9 t 6 u := by rw [zup4_v, if_pos ⟨rfl, rfl, rfl, rfl⟩]
    rw [f_Study_takeLines_2, if_pos hp, if_pos (show r32 u by unfold r32; omega), hV1, if_pos (show r32 V by unfold r32; omega), if_neg (show ¬ V ≤ u by omega), if_pos ht, ev, zb_s, if_pos hu4, if_neg (show ¬ B 4 (B 6 p 0 u) 5 (L u j) < 0 by omega), if_pos he, e6]
    generalize zup4 (zup4 B 9 t 7 u (B 9 t 5 u)) 9 t 8 u (B 9 t 6 u) = B2 at f2 a7 a8 ⊢
    have h2 : SCl K V p S F B2 := SCl_f (t := t) h' stF_r (fun c y k x nn => f2 c y k x (by omega))
    have tp := C_topx hS h2 u0 u1 l2 l3 (S u 2 (L u j) 0).toNat K.1 0 (-1) (by omega) (by decide) (by omega) (by decide) (by decide)
    rw [show B2 4 (B2 6 p 0 u) 5 (L u j) = B 4 (B 6 p 0 u) 5 (L u j) by rw [f2 6 p 0 u (by omega), f2 4 _ 5 _ (by omega)]] at tp
    have tp' : f_Event_top K (B 4 (B 6 p 0 u) 5 (L u j)) F B2 = some (tpS S u (L u j), F, B2) := tp
    rw [tp', zb_s]
    have tb := tpS_b hS u0 u1 l2 l3
    -- the tone, and on to the next voice
    have fin : ∀ (s y z : Int), s = (if S u 1 (L u j) 0 = T j then 1 else 0) → y = lS S u (L u j) → z = lT S u (L u j) → ∃ B', f_Study_takeLines_136 (f_Study_takeLines_2 K n) K u t p j t u z F (zup4 (zup4 B2 9 t 9 u s) 9 t 5 u y) = some (0, F, B') ∧ m59 t B B' ∧ (∀ k x, 5 ≤ k → k ≤ 9 → 0 ≤ x → x < u → B' 9 t k x = B 9 t k x) ∧ ∀ u', u ≤ u' → u' < V → B' 9 t 5 u' = lS S u' (L u' j) ∧ B' 9 t 6 u' = lT S u' (L u' j) ∧ B' 9 t 7 u' = B 9 t 5 u' ∧ B' 9 t 8 u' = B 9 t 6 u' ∧ B' 9 t 9 u' = if S u' 1 (L u' j) 0 = T j then 1 else 0 := fun s y z hs hy hz => by
      have f3 : ∀ c y' k x, ¬ (c = 9 ∧ y' = t ∧ 5 ≤ k ∧ k ≤ 9 ∧ x = u) → (zup4 (zup4 (zup4 B2 9 t 9 u s) 9 t 5 u y) 9 t 6 u z) c y' k x = B c y' k x := fun c y' k x nn => by rw [zup4_v, if_neg (by omega), zup4_v, if_neg (by omega), zup4_v, if_neg (by omega), f2 c y' k x (by omega)]
      rw [f_Study_takeLines_136, if_pos ht, if_pos hu4]
      obtain ⟨B', x1, x2, x3, x4⟩ := ih n (u + 1) (zup4 (zup4 (zup4 B2 9 t 9 u s) 9 t 5 u y) 9 t 6 u z) (by omega) (by omega) (by omega) (SCl_f (t := t) h' stF_r (fun c y k x nn => f3 c y k x (by omega))) (by rw [f3 9 t 1 j (by omega)]; exact h1) (fun u' a b => by rw [f3 9 t _ j (by omega)]; exact hL u' a b)
      refine ⟨B', x1, fun c y k x nn => by rw [x2 c y k x nn, f3 c y k x (by omega)], fun k x k0 k1 x0 x1' => by rw [x3 k x k0 k1 x0 (by omega), f3 9 t k x (by omega)], fun u' a b => ?_⟩
      by_cases zu : u' = u
      · rw [zu, x3 5 u (by decide) (by decide) u0 (by omega), x3 6 u (by decide) (by decide) u0 (by omega), x3 7 u (by decide) (by decide) u0 (by omega), x3 8 u (by decide) (by decide) u0 (by omega), x3 9 u (by decide) (by decide) u0 (by omega)]
        refine ⟨?_, ?_, ?_, ?_, ?_⟩
        · rw [zup4_v, if_neg (by omega), zup4_v, if_pos ⟨rfl, rfl, rfl, rfl⟩]; exact hy
        · rw [zup4_v, if_pos ⟨rfl, rfl, rfl, rfl⟩]; exact hz
        · rw [zup4_v, if_neg (by omega), zup4_v, if_neg (by omega), zup4_v, if_neg (by omega)]; exact a7
        · rw [zup4_v, if_neg (by omega), zup4_v, if_neg (by omega), zup4_v, if_neg (by omega)]; exact a8
        · rw [zup4_v, if_neg (by omega), zup4_v, if_neg (by omega), zup4_v, if_pos ⟨rfl, rfl, rfl, rfl⟩]; exact hs
      · have := x4 u' (by omega) b
        rw [f3 9 t 5 u' (by omega), f3 9 t 6 u' (by omega)] at this
        exact this
    have o89 : ∀ s : Int, s = (if S u 1 (L u j) 0 = T j then 1 else 0) → (s = 0 ∨ s = 1) → ∃ B', f_Study_takeLines_89 (f_Study_takeLines_2 K n) K (tpS S u (L u j)) (B 4 (B 6 p 0 u) 5 (L u j)) u t p j t u s F B2 = some (0, F, B') ∧ m59 t B B' ∧ (∀ k x, 5 ≤ k → k ≤ 9 → 0 ≤ x → x < u → B' 9 t k x = B 9 t k x) ∧ ∀ u', u ≤ u' → u' < V → B' 9 t 5 u' = lS S u' (L u' j) ∧ B' 9 t 6 u' = lT S u' (L u' j) ∧ B' 9 t 7 u' = B 9 t 5 u' ∧ B' 9 t 8 u' = B 9 t 6 u' ∧ B' 9 t 9 u' = if S u' 1 (L u' j) 0 = T j then 1 else 0 := fun s hs hs1 => by
      rw [f_Study_takeLines_89, if_pos ht, if_pos hu4, if_pos hs1, if_pos ht, if_pos (show r32 (tpS S u (L u j)) by unfold r32; omega)]
      by_cases z : tpS S u (L u j) = -1
      · rw [if_pos z, f_Study_takeLines_113, if_pos ht, if_pos hu4, if_pos ht, if_pos (show r32 (tpS S u (L u j)) by unfold r32; omega), if_pos z]
        exact fin s (-1) (-1) hs (by unfold lS; rw [if_pos z]) (by unfold lT; rw [if_pos z])
      · have z0 : 0 ≤ tpS S u (L u j) ∧ tpS S u (L u j) < S u 2 (L u j) 0 := by omega
        obtain ⟨p1, p2⟩ := ep (tpS S u (L u j)) z0.1 z0.2
        obtain ⟨k1, k2⟩ := gp (tpS S u (L u j)) z0.1 z0.2
        have fx : ∀ k x, B2 1 (B 4 (B 6 p 0 u) 5 (L u j)) k x = B 1 (B 4 (B 6 p 0 u) 5 (L u j)) k x := fun k x => f2 1 _ k x (by omega)
        have gx : ∀ k x s y, (zup4 (zup4 B2 9 t 9 u s) 9 t 5 u y) 1 (B 4 (B 6 p 0 u) 5 (L u j)) k x = B 1 (B 4 (B 6 p 0 u) 5 (L u j)) k x := fun k x s y => by rw [zup4_v, if_neg (by omega), zup4_v, if_neg (by omega), fx]
        rw [if_neg z, if_pos he, if_pos (show 0 ≤ tpS S u (L u j) ∧ tpS S u (L u j) < 6 by omega), show (zup4 B2 9 t 9 u s) 1 (B 4 (B 6 p 0 u) 5 (L u j)) 12 (tpS S u (L u j)) = S u 3 (L u j) (tpS S u (L u j)) by rw [zup4_v, if_neg (by omega), fx, p1], f_Study_takeLines_113, if_pos ht, if_pos hu4, if_pos ht, if_pos (show r32 (tpS S u (L u j)) by unfold r32; omega), if_neg z, if_pos he, C_tone he (by omega) (by rw [gx, p1]; exact k1), zb_s, gx, gx, p1, p2]
        exact fin s _ _ hs (by unfold lS; rw [if_neg z]) (by unfold lT; rw [if_neg z]; rfl)
    unfold f_Study_takeLines_57 f_Study_takeLines_88
    rw [if_pos ht, if_neg (show ¬ B 4 (B 6 p 0 u) 5 (L u j) < 0 by omega), if_pos he, if_pos hj, e0, f2 9 t 1 j (by omega), h1, if_pos (show r64 (S u 1 (L u j) 0) by unfold r64; omega), if_pos (show r64 (T j) by unfold r64; omega)]
    by_cases c : zcmp (S u 1 (L u j) 0) (T j) = 0
    · rw [if_pos c]; exact o89 1 (by rw [if_pos (zcmp_0.mp c)]) (Or.inr rfl)
    · rw [if_neg c]; exact o89 0 (by rw [if_neg (fun z => c (zcmp_0.mpr z))]) (Or.inl rfl)
end
end
end
section
section
/-! ===== study: all its faults, class, exactly ===== -/
variable {K : zK} {V p t : Int} {S : zV} {L : Int → Int → Int}
def f26 (t : Int) (B B' : zB) : Prop := ∀ c y k x, ¬ (c = 9 ∧ y = t ∧ 260 ≤ k ∧ k ≤ 263) → B' c y k x = B c y k x
def f92 (t : Int) (F F' : zF) : Prop := ∀ c y k, ¬ (c = 9 ∧ y = t ∧ k = 2) → F' c y k = F c y k
def GG (t : Int) (F0 : zF) (B0 : zB) (F : zF) (B : zB) : Prop := f92 t F0 F ∧ f26 t B0 B
theorem GG_t {F0 F1 F2 : zF} {B0 B1 B2 : zB} (h : GG t F0 B0 F1 B1) (h' : GG t F1 B1 F2 B2) : GG t F0 B0 F2 B2 := ⟨fun c i k n => by rw [h'.1 c i k n, h.1 c i k n], fun c i k x n => by rw [h'.2 c i k x n, h.2 c i k x n]⟩
theorem GG_r {F : zF} {B : zB} : GG t F B F B := ⟨fun _ _ _ _ => rfl, fun _ _ _ _ _ => rfl⟩
theorem C_addx {m k u v : Int} {s : zQ} {F : zF} {B : zB} (ht : 0 ≤ t ∧ t < K.2 9) (h : FCl t s F B) : ∃ F' B', f_Study_addFault K t m k u v F B = some (0, F', B') ∧ GG t F B F' B' ∧ FCl t (aF m k u v s) F' B' := by
  have h' := h
  obtain ⟨h1, h2, h3⟩ := h
  unfold f_Study_addFault
  rw [if_pos ht, h1, if_pos (by unfold r32; omega)]
  by_cases c : s.1 = 300
  · rw [if_neg (show ¬ s.1 < 300 by omega), aF_3 c]
    exact ⟨F, B, rfl, GG_r, h'⟩
  · rw [if_pos (show s.1 < 300 by omega), if_pos (show 0 ≤ s.1 ∧ s.1 < 300 by omega)]
    refine ⟨_, _, rfl, ⟨fun c i k n => by rw [zup3_v, if_neg n], fun c i k x n => by rw [zup4_v, if_neg (by omega), zup4_v, if_neg (by omega), zup4_v, if_neg (by omega), zup4_v, if_neg (by omega)]⟩, ?_⟩
    unfold aF
    rw [if_neg c]
    refine ⟨by rw [zup3_v, if_pos ⟨rfl, rfl, rfl⟩], by show 0 ≤ s.1 + 1 ∧ s.1 + 1 ≤ 300; omega, fun i i0 i1 => ?_⟩
    have i1 : i < s.1 + 1 := i1
    by_cases e : i = s.1
    · rw [e]
      refine ⟨?_, ?_, ?_, ?_⟩
      · rw [zup4_v, if_neg (by omega), zup4_v, if_neg (by omega), zup4_v, if_neg (by omega), zup4_v, if_pos ⟨rfl, rfl, rfl, rfl⟩]
        show m = if s.1 = s.1 then (if 0 = 0 then m else if 0 = 1 then k else if 0 = 2 then u else v) else s.2 0 s.1
        rw [if_pos rfl, if_pos rfl]
      · rw [zup4_v, if_neg (by omega), zup4_v, if_neg (by omega), zup4_v, if_pos ⟨rfl, rfl, rfl, rfl⟩]
        show k = if s.1 = s.1 then (if 1 = 0 then m else if 1 = 1 then k else if 1 = 2 then u else v) else s.2 1 s.1
        rw [if_pos rfl, if_neg (by decide), if_pos rfl]
      · rw [zup4_v, if_neg (by omega), zup4_v, if_pos ⟨rfl, rfl, rfl, rfl⟩]
        show u = if s.1 = s.1 then (if 2 = 0 then m else if 2 = 1 then k else if 2 = 2 then u else v) else s.2 2 s.1
        rw [if_pos rfl, if_neg (by decide), if_neg (by decide), if_pos rfl]
      · rw [zup4_v, if_pos ⟨rfl, rfl, rfl, rfl⟩]
        show v = if s.1 = s.1 then (if 3 = 0 then m else if 3 = 1 then k else if 3 = 2 then u else v) else s.2 3 s.1
        rw [if_pos rfl, if_neg (by decide), if_neg (by decide), if_neg (by decide)]
    · have a : ∀ r, (fun r i => if i = s.1 then (if r = 0 then m else if r = 1 then k else if r = 2 then u else v) else s.2 r i) r i = s.2 r i := fun r => by
        show (if i = s.1 then (if r = 0 then m else if r = 1 then k else if r = 2 then u else v) else s.2 r i) = s.2 r i
        rw [if_neg e]
      obtain ⟨b1, b2, b3, b4⟩ := h3 i i0 (by omega)
      refine ⟨?_, ?_, ?_, ?_⟩
      · rw [zup4_v, if_neg (by omega), zup4_v, if_neg (by omega), zup4_v, if_neg (by omega), zup4_v, if_neg (by omega), b1]; exact (a 0).symm
      · rw [zup4_v, if_neg (by omega), zup4_v, if_neg (by omega), zup4_v, if_neg (by omega), zup4_v, if_neg (by omega), b2]; exact (a 1).symm
      · rw [zup4_v, if_neg (by omega), zup4_v, if_neg (by omega), zup4_v, if_neg (by omega), zup4_v, if_neg (by omega), b3]; exact (a 2).symm
      · rw [zup4_v, if_neg (by omega), zup4_v, if_neg (by omega), zup4_v, if_neg (by omega), zup4_v, if_neg (by omega), b4]; exact (a 3).symm
/-- the lines of moment m and of the one before stand in the rows -/
def LNs (t V m : Int) (S : zV) (L : Int → Int → Int) (B : zB) : Prop := ∀ u, 0 ≤ u → u < V → (B 9 t 5 u = lS S u (L u m) ∧ B 9 t 6 u = lT S u (L u m) ∧ B 9 t 7 u = lS S u (L u (m - 1)) ∧ B 9 t 8 u = lT S u (L u (m - 1)) ∧ B 9 t 9 u = if L u m = L u (m - 1) then 0 else 1) ∧ lnB (lT S u (L u m)) (lS S u (L u m)) ∧ lnB (lT S u (L u (m - 1))) (lS S u (L u (m - 1)))
theorem LNs_f {m : Int} {B B' : zB} (h : LNs t V m S L B) (f : f26 t B B') : LNs t V m S L B' := fun u u0 u1 => by
  rw [f 9 t 5 u (by omega), f 9 t 6 u (by omega), f 9 t 7 u (by omega), f 9 t 8 u (by omega), f 9 t 9 u (by omega)]
  exact h u u0 u1
theorem bgB {a b : Int} : (if a = b then (0 : Int) else 1) = 0 ∨ (if a = b then (0 : Int) else 1) = 1 := by split <;> omega
theorem Y_ff22 {m k u : Int} {rec2 : Int → Int → Int → Int → zF → zB → zO} {rec10 : Int → Int → Int → Int → Int → zF → zB → zO} (hV : 1 ≤ V ∧ V ≤ 4) (ht : 0 ≤ t ∧ t < K.2 9) (u0 : 0 ≤ u) (u1 : u < V) (hk : 1 ≤ k ∧ k ≤ 4) : ∀ (d n : Nat) (v : Int) (s : zQ) (F : zF) (B : zB), 0 ≤ v → v + d = V → d < n → LNs t V m S L B → FCl t s F B → ∃ F' B', f_Study_findFaults_22 rec2 rec10 K n v u k t V m F B = rec10 (u + 1) k t V m F' B' ∧ GG t F B F' B' ∧ FCl t (fwQ S L m k u d v s) F' B' := by
  intro d
  induction d with
  | zero =>
    intro n v s F B v0 vd hn h hf
    obtain ⟨n, rfl⟩ : ∃ q, n = q + 1 := ⟨n - 1, by omega⟩
    rw [f_Study_findFaults_22, if_pos (show r32 v by unfold r32; omega), if_pos (show r32 V by unfold r32; omega), if_pos (show V ≤ v by omega)]
    exact ⟨F, B, rfl, GG_r, hf⟩
  | succ d ih =>
    intro n v s F B v0 vd hn h hf
    obtain ⟨n, rfl⟩ : ∃ q, n = q + 1 := ⟨n - 1, by omega⟩
    obtain ⟨⟨a5, a6, a7, a8, a9⟩, la, la'⟩ := h u u0 u1
    obtain ⟨⟨b5, b6, b7, b8, b9⟩, lb, lb'⟩ := h v v0 (by omega)
    have e2 : f_Study_isFaultOfTwo K t k u v F B = some (g2Q S L m k u v, F, B) := C_twox ht (show 0 ≤ u ∧ u < 4 by omega) (show 0 ≤ v ∧ v < 4 by omega) hk a5 a6 a7 a8 a9 b5 b6 b7 b8 b9 la la' lb lb' bgB bgB
    have gb := g2Q_b (S := S) (L := L) (m := m) (k := k) (u := u) (v := v)
    rw [f_Study_findFaults_22, if_pos (show r32 v by unfold r32; omega), if_pos (show r32 V by unfold r32; omega), if_neg (show ¬ V ≤ v by omega), if_pos ht, e2, zb_s, if_pos (show r32 (g2Q S L m k u v) by unfold r32; omega), fwQ]
    by_cases z : g2Q S L m k u v = 0
    · rw [if_pos z, if_pos z, f_Study_findFaults_50]
      exact ih n (v + 1) s F B (by omega) (by omega) (by omega) h hf
    · obtain ⟨F1, B1, x1, x2, x3⟩ := C_addx (K := K) (m := m) (k := k) (u := u) (v := v) ht hf
      rw [if_neg z, if_neg z, x1, zb_s, f_Study_findFaults_50]
      obtain ⟨F2, B2, y1, y2, y3⟩ := ih n (v + 1) _ F1 B1 (by omega) (by omega) (by omega) (LNs_f h x2.2) x3
      exact ⟨F2, B2, y1, GG_t x2 y2, y3⟩
theorem Y_ff10 {m k : Int} {rec2 : Int → Int → Int → Int → zF → zB → zO} (hK : 100 ≤ K.1) (hV : 1 ≤ V ∧ V ≤ 4) (ht : 0 ≤ t ∧ t < K.2 9) (hk : 1 ≤ k ∧ k ≤ 4) : ∀ (d n : Nat) (u : Int) (s : zQ) (F : zF) (B : zB), 0 ≤ u → u + d = V → d < n → LNs t V m S L B → FCl t s F B → ∃ F' B', f_Study_findFaults_10 rec2 K n u k t V m F B = rec2 (k + 1) t V m F' B' ∧ GG t F B F' B' ∧ FCl t (fuQ S L V m k d u s) F' B' := by
  intro d
  induction d with
  | zero =>
    intro n u s F B u0 ud hn h hf
    obtain ⟨n, rfl⟩ : ∃ q, n = q + 1 := ⟨n - 1, by omega⟩
    rw [f_Study_findFaults_10, if_pos (show r32 u by unfold r32; omega), if_pos (show r32 V by unfold r32; omega), if_pos (show V ≤ u by omega)]
    exact ⟨F, B, rfl, GG_r, hf⟩
  | succ d ih =>
    intro n u s F B u0 ud hn h hf
    obtain ⟨n, rfl⟩ : ∃ q, n = q + 1 := ⟨n - 1, by omega⟩
    obtain ⟨F1, B1, x1, x2, x3⟩ := Y_ff22 (rec2 := rec2) (rec10 := f_Study_findFaults_10 rec2 K n) hV ht u0 (show u < V by omega) hk (V - (u + 1)).toNat K.1 (u + 1) s F B (by omega) (by omega) (by omega) h hf
    obtain ⟨F2, B2, y1, y2, y3⟩ := ih n (u + 1) _ F1 B1 (by omega) (by omega) (by omega) (LNs_f h x2.2) x3
    rw [f_Study_findFaults_10, if_pos (show r32 u by unfold r32; omega), if_pos (show r32 V by unfold r32; omega), if_neg (show ¬ V ≤ u by omega), x1, fuQ]
    exact ⟨F2, B2, y1, GG_t x2 y2, y3⟩
theorem Y_ff79 {m k : Int} {rec70 : Int → Int → Int → Int → zF → zB → zO} (hV : 1 ≤ V ∧ V ≤ 4) (ht : 0 ≤ t ∧ t < K.2 9) (hk : k = 5 ∨ k = 6) : ∀ (d n : Nat) (u : Int) (s : zQ) (F : zF) (B : zB), 0 ≤ u → u + d = V → d < n → LNs t V m S L B → FCl t s F B → ∃ F' B', f_Study_findFaults_79 rec70 K n u k t V m F B = rec70 (k + 1) t V m F' B' ∧ GG t F B F' B' ∧ FCl t (foQ S L m k d u s) F' B' := by
  intro d
  induction d with
  | zero =>
    intro n u s F B u0 ud hn h hf
    obtain ⟨n, rfl⟩ : ∃ q, n = q + 1 := ⟨n - 1, by omega⟩
    rw [f_Study_findFaults_79, if_pos (show r32 u by unfold r32; omega), if_pos (show r32 V by unfold r32; omega), if_pos (show V ≤ u by omega)]
    exact ⟨F, B, rfl, GG_r, hf⟩
  | succ d ih =>
    intro n u s F B u0 ud hn h hf
    obtain ⟨n, rfl⟩ : ∃ q, n = q + 1 := ⟨n - 1, by omega⟩
    obtain ⟨⟨a5, a6, a7, a8, a9⟩, la, la'⟩ := h u u0 (by omega)
    have e1 : f_Study_isFaultOfOne K t k u F B = some (g1Q S L m k u, F, B) := C_onex ht (show 0 ≤ u ∧ u < 4 by omega) hk a5 a6 a7 a8 a9 la la' bgB
    have gb := g1Q_b (S := S) (L := L) (m := m) (k := k) (u := u)
    rw [f_Study_findFaults_79, if_pos (show r32 u by unfold r32; omega), if_pos (show r32 V by unfold r32; omega), if_neg (show ¬ V ≤ u by omega), if_pos ht, e1, zb_s, if_pos (show r32 (g1Q S L m k u) by unfold r32; omega), foQ]
    by_cases z : g1Q S L m k u = 0
    · rw [if_pos z, if_pos z, f_Study_findFaults_104]
      exact ih n (u + 1) s F B (by omega) (by omega) (by omega) h hf
    · obtain ⟨F1, B1, x1, x2, x3⟩ := C_addx (K := K) (m := m) (k := k) (u := u) (v := -1) ht hf
      rw [if_neg z, if_neg z, x1, zb_s, f_Study_findFaults_104]
      obtain ⟨F2, B2, y1, y2, y3⟩ := ih n (u + 1) _ F1 B1 (by omega) (by omega) (by omega) (LNs_f h x2.2) x3
      exact ⟨F2, B2, y1, GG_t x2 y2, y3⟩
theorem Y_ff70 {m : Int} (hK : 100 ≤ K.1) (hV : 1 ≤ V ∧ V ≤ 4) (ht : 0 ≤ t ∧ t < K.2 9) : ∀ (d n : Nat) (k : Int) (s : zQ) (F : zF) (B : zB), 5 ≤ k → k + d = 7 → d < n → LNs t V m S L B → FCl t s F B → ∃ F' B', f_Study_findFaults_70 K n k t V m F B = some (0, F', B') ∧ GG t F B F' B' ∧ FCl t (fkQ S L V m d k s) F' B' := by
  intro d
  induction d with
  | zero =>
    intro n k s F B k0 kd hn h hf
    obtain ⟨n, rfl⟩ : ∃ q, n = q + 1 := ⟨n - 1, by omega⟩
    rw [f_Study_findFaults_70, if_pos (show r32 k by unfold r32; omega), if_pos (show 6 < k by omega)]
    exact ⟨F, B, rfl, GG_r, hf⟩
  | succ d ih =>
    intro n k s F B k0 kd hn h hf
    obtain ⟨n, rfl⟩ : ∃ q, n = q + 1 := ⟨n - 1, by omega⟩
    obtain ⟨F1, B1, x1, x2, x3⟩ := Y_ff79 (rec70 := f_Study_findFaults_70 K n) hV ht (show k = 5 ∨ k = 6 by omega) V.toNat K.1 0 s F B (by decide) (by omega) (by omega) h hf
    obtain ⟨F2, B2, y1, y2, y3⟩ := ih n (k + 1) _ F1 B1 (by omega) (by omega) (by omega) (LNs_f h x2.2) x3
    rw [f_Study_findFaults_70, if_pos (show r32 k by unfold r32; omega), if_neg (show ¬ 6 < k by omega), x1, fkQ, if_neg (show ¬ k ≤ 4 by omega)]
    exact ⟨F2, B2, y1, GG_t x2 y2, y3⟩
theorem Y_ff2 {m : Int} (hK : 100 ≤ K.1) (hV : 1 ≤ V ∧ V ≤ 4) (ht : 0 ≤ t ∧ t < K.2 9) : ∀ (d n : Nat) (k : Int) (s : zQ) (F : zF) (B : zB), 1 ≤ k → k + d = 5 → d < n → LNs t V m S L B → FCl t s F B → ∃ F' B', f_Study_findFaults_2 K n k t V m F B = some (0, F', B') ∧ GG t F B F' B' ∧ FCl t (fkQ S L V m (d + 2) k s) F' B' := by
  intro d
  induction d with
  | zero =>
    intro n k s F B k0 kd hn h hf
    obtain ⟨n, rfl⟩ : ∃ q, n = q + 1 := ⟨n - 1, by omega⟩
    obtain rfl : k = 5 := by omega
    rw [f_Study_findFaults_2, if_pos (show r32 5 by decide), if_pos (show (4 : Int) < 5 by decide)]
    exact Y_ff70 hK hV ht 2 K.1 5 s F B (by decide) (by decide) (by omega) h hf
  | succ d ih =>
    intro n k s F B k0 kd hn h hf
    obtain ⟨n, rfl⟩ : ∃ q, n = q + 1 := ⟨n - 1, by omega⟩
    obtain ⟨F1, B1, x1, x2, x3⟩ := Y_ff10 (rec2 := f_Study_findFaults_2 K n) hK hV ht (show 1 ≤ k ∧ k ≤ 4 by omega) V.toNat K.1 0 s F B (by decide) (by omega) (by omega) h hf
    obtain ⟨F2, B2, y1, y2, y3⟩ := ih n (k + 1) _ F1 B1 (by omega) (by omega) (by omega) (LNs_f h x2.2) x3
    rw [f_Study_findFaults_2, if_pos (show r32 k by unfold r32; omega), if_neg (show ¬ 4 < k by omega), x1, show d + 1 + 2 = d + 2 + 1 by omega, fkQ, if_pos (show k ≤ 4 by omega)]
    exact ⟨F2, B2, y1, GG_t x2 y2, y3⟩
/-- the lines of moment j alone -/
def LN1 (t V j : Int) (S : zV) (L : Int → Int → Int) (B : zB) : Prop := ∀ u, 0 ≤ u → u < V → B 9 t 5 u = lS S u (L u j) ∧ B 9 t 6 u = lT S u (L u j)
theorem Y_lt12 {c : Int} {T : Int → Int} (hK : 60000 ≤ K.1) (hS : SG V S) (ht : 0 ≤ t ∧ t < K.2 9) : ∀ (d N : Nat) (m : Int) (s : zQ) (F : zF) (B : zB), m + d = c → 0 ≤ m → d < N → SCl K V p S F B → F 9 t 0 = c → MXc V t S T L F B → FCl t s F B → (0 < m → LN1 t V (m - 1) S L B) → ∃ F' B', f_Study_lookThrough_12 K N m t p F B = some (0, F', B') ∧ stF t F F' ∧ stB t B B' ∧ F' 9 t 0 = c ∧ MXc V t S T L F' B' ∧ FCl t (if m = 0 then fmQ S L V (d - 1) 1 s else fmQ S L V d m s) F' B' := by
  have hV := hS.1
  intro d
  induction d with
  | zero =>
    intro N m s F B md m0 hN h h0 hM hF hL
    obtain ⟨n, rfl⟩ : ∃ q, N = q + 1 := ⟨N - 1, by omega⟩
    have c8 := hM.2.2.1.1
    rw [f_Study_lookThrough_12, if_pos ht, h0, if_pos (show r32 m by unfold r32; omega), if_pos (show r32 c by unfold r32; omega), if_pos (show c ≤ m by omega), f_Study_lookThrough_55]
    refine ⟨F, B, rfl, stF_r, stB_r, h0, hM, ?_⟩
    split <;> exact hF
  | succ d ih =>
    intro N m s F B md m0 hN h h0 hM hF hL
    obtain ⟨n, rfl⟩ : ∃ q, N = q + 1 := ⟨N - 1, by omega⟩
    have c8 := hM.2.2.1.1
    rw [h0] at c8
    rw [f_Study_lookThrough_12, if_pos ht, h0, if_pos (show r32 m by unfold r32; omega), if_pos (show r32 c by unfold r32; omega), if_neg (show ¬ c ≤ m by omega), hF.1, if_pos (show r32 s.1 by have := hF.2.1; unfold r32; omega)]
    by_cases z : 300 ≤ s.1
    · have z3 : s.1 = 300 := by have := hF.2.1; omega
      rw [if_pos z, f_Study_lookThrough_55]
      refine ⟨F, B, rfl, stF_r, stB_r, h0, hM, ?_⟩
      rw [fmQ_3 _ _ s z3, fmQ_3 _ _ s z3]
      split <;> exact hF
    rw [if_neg z]
    obtain ⟨M1, M2, M3, M4⟩ := id hM
    rw [h0] at M1 M2 M3 M4
    have hT : 0 ≤ T m ∧ T m ≤ 1000000000000 := by
      obtain ⟨u, i, u0, u1, i0, i1, e⟩ := (M3.2.2 (T m)).mp ⟨m, m0, by omega, rfl⟩
      have := ((hS.2 u u0 u1).2.2.1 i i0 i1).1
      omega
    obtain ⟨B1, x1, x2, x3, x4⟩ := C_tl2x (p := p) (T := T) (L := L) (F := F) hK hS ht (show 0 ≤ m ∧ m < 800 by omega) hT V.toNat K.1 0 B (by omega) (by decide) (by omega) h (M1 m m0 (by omega)) (fun u' a b => ⟨M2 u' m a b m0 (by omega), (M4 u' m a b m0 (by omega)).1⟩)
    have x1' : f_Study_takeLines K t p m F B = some (0, F, B1) := x1
    have b1 : stB t B B1 := fun c y k x nn => x2 c y k x (by omega)
    have hM1 : MXc V t S T L F B1 := MXc_f hM rfl (fun k x hk => x2 9 t k x (by omega)) hV.2
    have hF1 : FCl t s F B1 := ⟨hF.1, hF.2.1, fun i i0 i1 => by rw [x2 9 t 260 i (by omega), x2 9 t 261 i (by omega), x2 9 t 262 i (by omega), x2 9 t 263 i (by omega)]; exact hF.2.2 i i0 i1⟩
    have l1 : LN1 t V m S L B1 := fun u u0 u1 => ⟨(x4 u u0 u1).1, (x4 u u0 u1).2.1⟩
    rw [x1', zb_s]
    by_cases m1 : m ≤ 0
    · have e0 : m = 0 := by omega
      rw [if_pos m1, f_Study_lookThrough_49]
      obtain ⟨F2, B2, y1, y2, y3, y4, y5, y6⟩ := ih n (m + 1) s F B1 (by omega) (by omega) (by omega) (SCl_f h stF_r b1) h0 hM1 hF1 (fun _ => by rw [show m + 1 - 1 = m by omega]; exact l1)
      refine ⟨F2, B2, y1, y2, stB_t b1 y3, y4, y5, ?_⟩
      rw [if_neg (show ¬ m + 1 = 0 by omega)] at y6
      rw [if_pos e0, show d + 1 - 1 = d by omega]
      rw [e0] at y6
      exact y6
    · rw [if_neg m1, if_pos h.1, h.2.1]
      have ls : LNs t V m S L B1 := fun u u0 u1 => by
        obtain ⟨a5, a6, a7, a8, a9⟩ := x4 u u0 u1
        obtain ⟨o5, o6⟩ := hL (by omega) u u0 u1
        obtain ⟨i1, i2⟩ := (M4 u m u0 u1 m0 (by omega)).1
        obtain ⟨i3, i4⟩ := (M4 u (m - 1) u0 u1 (by omega) (by omega)).1
        have bg := LI_b hS M3 M4 u0 u1 (show 1 ≤ m by omega) (show m < c by omega)
        refine ⟨⟨a5, a6, by rw [a7, o5], by rw [a8, o6], ?_⟩, lTS_b hS u0 u1 i1 i2, lTS_b hS u0 u1 i3 i4⟩
        rw [a9]
        by_cases q : L u m = L u (m - 1)
        · rw [if_pos q, if_neg (fun k => bg.mp k q)]
        · rw [if_neg q, if_pos (bg.mpr q)]
      obtain ⟨F2, B2, y1, y2, y3⟩ := Y_ff2 (K := K) (m := m) (by omega) hV ht 4 K.1 1 s F B1 (by decide) (by decide) (by omega) ls hF1
      have y1' : f_Study_findFaults K t V m F B1 = some (0, F2, B2) := y1
      have f2 : stF t F F2 := fun c y k nn => y2.1 c y k (by omega)
      have b2 : stB t B1 B2 := fun c y k x nn => y2.2 c y k x (by omega)
      have h02 : F2 9 t 0 = c := by rw [y2.1 9 t 0 (by omega)]; exact h0
      rw [y1', zb_s, f_Study_lookThrough_49]
      obtain ⟨F3, B3, w1, w2, w3, w4, w5, w6⟩ := ih n (m + 1) _ F2 B2 (by omega) (by omega) (by omega) (SCl_f (SCl_f h stF_r b1) f2 b2) h02 (MXc_f hM1 (by rw [h02, h0]) (fun k x hk => y2.2 9 t k x (by omega)) hV.2) y3 (fun _ => by
        rw [show m + 1 - 1 = m by omega]
        exact fun u u0 u1 => by rw [y2.2 9 t 5 u (by omega), y2.2 9 t 6 u (by omega)]; exact l1 u u0 u1)
      refine ⟨F3, B3, w1, stF_t f2 w2, stB_t b1 (stB_t b2 w3), w4, w5, ?_⟩
      rw [if_neg (show ¬ m + 1 = 0 by omega)] at w6
      rw [if_neg (show ¬ m = 0 by omega), fmQ]
      exact w6
theorem C_lookx {F : zF} {B : zB} (hK : 60000 ≤ K.1) (hS : SG V S) (h : SCl K V p S F B) (ht : 0 ≤ t ∧ t < K.2 9) : ∃ F' B', f_Study_lookThrough K t p F B = some (0, F', B') ∧ stF t F F' ∧ stB t B B' ∧ STX V t S F' B' := by
  obtain ⟨F1, B1, T, L, x1, x2, x3, x4⟩ := C_fmox hK hS h ht
  have c8 := x4.2.2.1.1
  have f2 : stF t F1 (zup3 F1 9 t 2 0) := stF_w (by omega)
  have e0 : (zup3 F1 9 t 2 0) 9 t 0 = F1 9 t 0 := by rw [zup3_v, if_neg (by omega)]
  obtain ⟨F2, B2, y1, y2, y3, y4, y5, y6⟩ := Y_lt12 (c := F1 9 t 0) (p := p) (L := L) (T := T) hK hS ht (F1 9 t 0).toNat K.1 0 (0, fun _ _ => 0) (zup3 F1 9 t 2 0) B1 (by omega) (by decide) (by omega) (SCl_f (SCl_f h x2 x3) f2 stB_r) e0 (MXc_f x4 e0 (fun _ _ _ => rfl) hS.1.2) ⟨by rw [zup3_v, if_pos ⟨rfl, rfl, rfl⟩], by decide, fun i i0 i1 => by have i1 : i < 0 := i1; omega⟩ (fun z => by omega)
  unfold f_Study_lookThrough
  rw [if_pos ht, x1, zb_s, y1]
  refine ⟨F2, B2, rfl, stF_t x2 (stF_t f2 y2), stB_t x3 y3, T, L, y5, ?_⟩
  rw [if_pos rfl] at y6
  unfold flQ
  rw [y4, show (F1 9 t 0 - 1).toNat = (F1 9 t 0).toNat - 1 by omega]
  exact y6
end
end
section
section
/-! ===== study: chords, class ===== -/
theorem zand63 (x : Int) : zand x 63 = x % 64 := by
  have h : (iI x &&& iI 63).toBitVec = BitVec.ofInt 32 x &&& 63#32 := rfl
  have hn : (BitVec.ofInt 32 x &&& 63#32).toNat = (x % 64).toNat := by
    rw [BitVec.toNat_and, BitVec.toNat_ofInt]
    show (x % (2 ^ 32 : Nat)).toNat &&& 63 = _
    rw [show (x % (2 ^ 32 : Nat)).toNat &&& 63 = (x % (2 ^ 32 : Nat)).toNat % 64 from Nat.and_two_pow_sub_one_eq_mod _ 6]
    omega
  show (iI x &&& iI 63).toBitVec.toInt = x % 64
  rw [h, BitVec.toInt_eq_toNat_of_lt (by rw [hn]; omega), hn]
  omega
theorem zand63_b (x : Int) : 0 ≤ zand x 63 ∧ zand x 63 ≤ 63 := by rw [zand63]; omega
theorem zt5_f : ztl 5 = 7 ∧ (∀ k : Fin 7, 0 ≤ ztv 5 (k.val : Int) ∧ ztv 5 (k.val : Int) ≤ 11) := by decide +kernel
theorem zt5_v {x : Int} (h0 : 0 ≤ x) (h1 : x < 7) : 0 ≤ ztv 5 x ∧ ztv 5 x ≤ 11 := by
  have k := zt5_f.2 ⟨x.toNat, by omega⟩
  rw [show (((⟨x.toNat, by omega⟩ : Fin 7).val : Nat) : Int) = x by show ((x.toNat : Nat) : Int) = x; omega] at k
  exact k
theorem zt16_f : ztl 16 = 16 ∧ ztl 17 = 16 ∧ (∀ k : Fin 16, r32 (ztv 16 (k.val : Int)) ∧ 0 ≤ ztv 17 (k.val : Int) ∧ ztv 17 (k.val : Int) ≤ 9) := by decide +kernel
theorem zt16_v {x : Int} (h0 : 0 ≤ x) (h1 : x < 16) : r32 (ztv 16 x) ∧ 0 ≤ ztv 17 x ∧ ztv 17 x ≤ 9 := by
  have k := zt16_f.2.2 ⟨x.toNat, by omega⟩
  rw [show (((⟨x.toNat, by omega⟩ : Fin 16).val : Nat) : Int) = x by show ((x.toNat : Nat) : Int) = x; omega] at k
  exact k
section
variable {K : zK} {V p t : Int} {F : zF} {B : zB}
theorem C_bit (x : Int) : ∃ r, f_Integer_bitCount K x F B = some (r, F, B) ∧ 0 ≤ r ∧ r ≤ 63 := ⟨_, rfl, zand63_b _⟩
theorem C_alt {l : Int} (ht : 0 ≤ t ∧ t < K.2 9) (hl : 0 ≤ l ∧ l < 7) : ∃ r, f_Study_alterationOf K t l F B = some (r, F, B) ∧ -2 ≤ r ∧ r ≤ 61 := by
  obtain ⟨r, e, r0, r1⟩ := C_bit (K := K) (F := F) (B := B) (B 9 t 10 l - 1)
  unfold f_Study_alterationOf
  rw [if_pos ht, if_pos hl, e, zb_s]
  exact ⟨_, rfl, by omega, by omega⟩
theorem C_tonA {a b : Int} (ht : 0 ≤ t ∧ t < K.2 9) (hS : SBb t B) (ha : 0 ≤ a ∧ a < 7) (hb : 0 ≤ b ∧ b ≤ 6) : ∃ r, f_Study_tonesAbove K t a b F B = some (r, F, B) ∧ -12 ≤ r ∧ r ≤ 99 := by
  have ez : zrm (a + b) 7 = (a + b) % 7 := zrm_e (by omega) (by unfold r32; omega) (by decide) (by decide)
  have q : 0 ≤ (a + b) % 7 ∧ (a + b) % 7 < 7 := by omega
  unfold f_Study_tonesAbove
  rw [ez]
  generalize (a + b) % 7 = i at q ⊢
  have s10 := (hS.2.2 i).2.2.2.2.2
  rw [if_pos ht, if_pos q, if_pos s10]
  by_cases c : B 9 t 10 i = 0
  · rw [if_pos c]; exact ⟨99, rfl, by omega, by omega⟩
  obtain ⟨r, e, r0, r1⟩ := C_alt (F := F) (B := B) ht q
  obtain ⟨s, e', s0, s1⟩ := C_alt (F := F) (B := B) ht ha
  have z1 := zt5_v q.1 q.2
  have z2 := zt5_v ha.1 ha.2
  obtain ⟨m, F', B', em, rfl, rfl, m0, m1⟩ := s_fm (K := K) (a := ztv 5 i + r - ztv 5 a - s) (b := 12) (F := F) (B := B) (by unfold r32; omega) (by decide) (by decide)
  rw [if_neg c, zt5_f.1, if_pos q, e, zb_s, if_pos ha, e', zb_s, em, zb_s]
  exact ⟨m, rfl, by omega, by omega⟩
theorem C_ck88 {v : Int} (hv : r32 v) : ∀ (d N : Nat) (i : Int), i + d = 16 → 0 ≤ i → d < N → ∃ r, f_Study_chordKind_88 K N i v F B = some (r, F, B) ∧ -1 ≤ r ∧ r ≤ 9 := by
  intro d
  induction d with
  | zero =>
    intro N i hi i0 hN
    obtain ⟨n, rfl⟩ : ∃ n, N = n + 1 := ⟨N - 1, by omega⟩
    rw [f_Study_chordKind_88, zt16_f.1, if_pos (by unfold r32; omega), if_pos (by decide), if_pos (by omega)]
    exact ⟨-1, rfl, by omega, by omega⟩
  | succ d ih =>
    intro N i hi i0 hN
    obtain ⟨n, rfl⟩ : ∃ n, N = n + 1 := ⟨N - 1, by omega⟩
    have z := zt16_v i0 (by omega)
    rw [f_Study_chordKind_88, zt16_f.1, zt16_f.2.1, if_pos (by unfold r32; omega), if_pos (by decide), if_neg (by omega), if_pos (by omega), if_pos z.1, if_pos hv]
    by_cases c : ztv 16 i = v
    · rw [if_pos c, if_pos (by omega)]; exact ⟨_, rfl, by omega, z.2.2⟩
    · rw [if_neg c]; exact ih n (i + 1) (by omega) (by omega) (by omega)
theorem C_ck2 {a : Int} (hK : 60000 ≤ K.1) (ht : 0 ≤ t ∧ t < K.2 9) (hS : SBb t B) (ha : 0 ≤ a ∧ a < 7) : ∀ (d N : Nat) (i : Int), i + d = 7 → 0 ≤ i → d < N → ∃ r, f_Study_chordKind_2 K N i t a F B = some (r, F, B) ∧ -1 ≤ r ∧ r ≤ 9 := by
  intro d
  induction d with
  | zero =>
    intro N i hi i0 hN
    obtain ⟨n, rfl⟩ : ∃ n, N = n + 1 := ⟨N - 1, by omega⟩
    have s10 := (hS.2.2 a).2.2.2.2.2
    rw [f_Study_chordKind_2, if_pos (by unfold r32; omega), if_pos (by omega), if_pos ht, if_pos ha, if_pos s10]
    by_cases c : B 9 t 10 a = 0
    · rw [if_pos c]; exact ⟨-1, rfl, by omega, by omega⟩
    obtain ⟨r1, e1, a1, b1⟩ := C_tonA (F := F) ht hS ha (b := 2) (by omega)
    obtain ⟨r2, e2, a2, b2⟩ := C_tonA (F := F) ht hS ha (b := 4) (by omega)
    obtain ⟨r3, e3, a3, b3⟩ := C_tonA (F := F) ht hS ha (b := 6) (by omega)
    rw [if_neg c, e1, zb_s, e2, zb_s, e3, zb_s]
    exact C_ck88 (by unfold r32; omega) 16 K.1 0 (by omega) (by decide) (by omega)
  | succ d ih =>
    intro N i hi i0 hN
    obtain ⟨n, rfl⟩ : ∃ n, N = n + 1 := ⟨N - 1, by omega⟩
    have o19 : ∀ s, (s = 0 ∨ s = 1) → ∃ r, f_Study_chordKind_19 (f_Study_chordKind_2 K n) K i t a s F B = some (r, F, B) ∧ -1 ≤ r ∧ r ≤ 9 := fun s hs => by
      have ez : zrm (a + i) 7 = (a + i) % 7 := zrm_e (by omega) (by unfold r32; omega) (by decide) (by decide)
      obtain ⟨r, e, r0, r1⟩ := C_bit (K := K) (F := F) (B := B) (B 9 t 10 ((a + i) % 7))
      unfold f_Study_chordKind_19
      rw [ez, if_pos ht, if_pos (by omega), e, zb_s, if_pos (by unfold r32; omega), if_pos (by unfold r32; omega)]
      by_cases c : r ≤ s
      · rw [if_pos c]; exact ih n (i + 1) (by omega) (by omega) (by omega)
      · rw [if_neg c]; exact ⟨-1, rfl, by omega, by omega⟩
    rw [f_Study_chordKind_2, if_pos (by unfold r32; omega), if_neg (by omega), if_pos (zrm_R _ _)]
    by_cases c : zrm i 2 = 0
    · rw [if_pos c]; exact o19 1 (Or.inr rfl)
    · rw [if_neg c]; exact o19 0 (Or.inl rfl)
theorem C_isFo (hK : 60000 ≤ K.1) (h : PQs K V p F B) (ht : 0 ≤ t ∧ t < K.2 9) : ∀ (d N : Nat) (i : Int), i + d = 7 → 0 ≤ i → d < N → ∃ r, f_Study_isForeign_2 K N i t p F B = some (r, F, B) ∧ (r = 0 ∨ r = 1) := by
  intro d
  induction d with
  | zero =>
    intro N i hi i0 hN
    obtain ⟨n, rfl⟩ : ∃ n, N = n + 1 := ⟨N - 1, by omega⟩
    rw [f_Study_isForeign_2, if_pos (by unfold r32; omega), if_pos (by omega)]
    exact ⟨0, rfl, Or.inl rfl⟩
  | succ d ih =>
    intro N i hi i0 hN
    obtain ⟨n, rfl⟩ : ∃ n, N = n + 1 := ⟨N - 1, by omega⟩
    obtain ⟨r, e, _⟩ := C_key (K := K) (F := F) (B := B) h.2.2.1 (s := i) i0 (by omega)
    rw [f_Study_isForeign_2, if_pos (by unfold r32; omega), if_neg (by omega), if_pos h.1, e, zb_s, if_pos ht, if_pos (by omega), if_pos (zand_R _ _)]
    by_cases c : zand (B 9 t 10 i) (zxor (zshl 1 (r + 2)) (-1)) = 0
    · rw [if_pos c]; exact ih n (i + 1) (by omega) (by omega) (by omega)
    · rw [if_neg c]; exact ⟨1, rfl, Or.inr rfl⟩
theorem C_bs32 {e u j : Int} {rec : Int → Int → Int → Int → Int → Int → zF → zB → zO} {Q : zO → Prop} (he : e < 0 ∨ EKc K e F B) (go : ∀ a b, (0 ≤ a ∧ a ≤ 62) → (0 ≤ b ∧ b ≤ 1000) → Q (rec (u + 1) a b t p j F B)) : ∀ (d N : Nat) (i a b : Int), (0 ≤ e → i + d = F 1 e 10) → (e < 0 → d = 0) → 0 ≤ i → d < N → (0 ≤ a ∧ a ≤ 62) → (0 ≤ b ∧ b ≤ 1000) → Q (f_Study_bassLetter_32 rec K N i e u a b t p j F B) := by
  intro d
  induction d with
  | zero =>
    intro N i a b hi hd i0 hN ha hb
    obtain ⟨n, rfl⟩ : ∃ n, N = n + 1 := ⟨N - 1, by omega⟩
    rw [f_Study_bassLetter_32]
    rcases he with z | ek
    · rw [if_pos z]; exact go a b ha hb
    · have k := ek.1
      have k10 := ek.2.1
      have := hi k.1
      rw [if_neg (by omega), if_pos ek.1, if_pos (by unfold r32; omega), if_pos (by unfold r32; omega), if_pos (by omega)]
      exact go a b ha hb
  | succ d ih =>
    intro N i a b hi hd i0 hN ha hb
    obtain ⟨n, rfl⟩ : ∃ n, N = n + 1 := ⟨N - 1, by omega⟩
    rw [f_Study_bassLetter_32]
    rcases he with z | ek
    · have := hd z; omega
    have k := ek.1
    have k10 := ek.2.1
    have hi' := hi k.1
    have kx := ek.2.2 i i0 (by omega)
    have tb := tnv_r kx.1.1 kx.1.2 kx.2.1 kx.2.2
    have et := C_tone (K := K) (F := F) (B := B) (e := e) (k := i) ek.1 (by omega) kx.1
    have nx : ∀ a b, (0 ≤ a ∧ a ≤ 62) → (0 ≤ b ∧ b ≤ 1000) → Q (f_Study_bassLetter_94 rec (f_Study_bassLetter_32 rec K n) K i e u a b t p j F B) := fun a b ha hb => ih n (i + 1) a b (fun _ => by omega) (fun z => by omega) (by omega) (by omega) ha hb
    have o81 : Q (f_Study_bassLetter_81 rec (f_Study_bassLetter_32 rec K n) K (tnv (B 1 e 12 i) + B 1 e 13 i) i e u t p j F B) := by
      unfold f_Study_bassLetter_81
      rw [if_pos ek.1, if_pos (by omega)]
      exact nx _ _ kx.1 (by omega)
    rw [if_neg (by omega), if_pos ek.1, if_pos (by unfold r32; omega), if_pos (by unfold r32; omega), if_neg (by omega), et, zb_s, if_pos (by unfold r32; omega), if_pos (by unfold r32; omega)]
    by_cases c1 : tnv (B 1 e 12 i) + B 1 e 13 i < b
    · rw [if_pos c1]; exact o81
    rw [if_neg c1]
    by_cases c2 : tnv (B 1 e 12 i) + B 1 e 13 i = b
    · rw [if_pos c2, if_pos (by omega), if_pos (by unfold r32; omega), if_pos (by unfold r32; omega)]
      by_cases c3 : a ≤ B 1 e 12 i
      · rw [if_pos c3]; exact nx a b ha hb
      · rw [if_neg c3]; exact o81
    · rw [if_neg c2]; exact nx a b ha hb
theorem C_bs10 {j : Int} (hK : 60000 ≤ K.1) (h : PQs K V p F B) (ht : 0 ≤ t ∧ t < K.2 9) (hS : SBb t B) (hj : 0 ≤ j ∧ j < 800) : ∀ (d N : Nat) (u a b : Int), u + d = V → 0 ≤ u → d < N → (0 ≤ a ∧ a ≤ 62) → (0 ≤ b ∧ b ≤ 1000) → ∃ r, f_Study_bassLetter_10 K N u a b t p j F B = some (r, F, B) ∧ 0 ≤ r ∧ r ≤ 6 := by
  have hV := h.2.1
  intro d
  induction d with
  | zero =>
    intro N u a b hu u0 hN ha hb
    obtain ⟨n, rfl⟩ : ∃ n, N = n + 1 := ⟨N - 1, by omega⟩
    rw [f_Study_bassLetter_10, if_pos h.1, if_pos (by unfold r32; omega), if_pos (by unfold r32; omega), if_pos (by omega), zrm_e ha.1 (by unfold r32; omega) (by decide) (by decide)]
    exact ⟨_, rfl, by omega, by omega⟩
  | succ d ih =>
    intro N u a b hu u0 hN ha hb
    obtain ⟨n, rfl⟩ : ∃ n, N = n + 1 := ⟨N - 1, by omega⟩
    obtain ⟨r, e, hr⟩ := C_evO h ht hS u0 (by omega) hj
    rw [f_Study_bassLetter_10, if_pos h.1, if_pos (by unfold r32; omega), if_pos (by unfold r32; omega), if_neg (by omega), if_pos ht, e, zb_s]
    have he : r < 0 ∨ EKc K r F B := by
      rcases hr with z | z
      · exact Or.inl (by omega)
      · exact Or.inr z.1
    have k10 : 0 ≤ r → 0 ≤ F 1 r 10 ∧ F 1 r 10 ≤ 6 := fun z => by
      rcases he with y | y
      · omega
      · exact y.2.1
    by_cases z : r < 0
    · exact C_bs32 (Q := fun x => ∃ r, x = some (r, F, B) ∧ 0 ≤ r ∧ r ≤ 6) (rec := f_Study_bassLetter_10 K n) he (fun a b ha hb => ih n (u + 1) a b (by omega) (by omega) (by omega) ha hb) 0 K.1 0 a b (fun y => by omega) (fun _ => rfl) (by decide) (by omega) ha hb
    · have k := k10 (by omega)
      exact C_bs32 (Q := fun x => ∃ r, x = some (r, F, B) ∧ 0 ≤ r ∧ r ≤ 6) (rec := f_Study_bassLetter_10 K n) he (fun a b ha hb => ih n (u + 1) a b (by omega) (by omega) (by omega) ha hb) (F 1 r 10).toNat K.1 0 a b (fun y => by omega) (fun y => by omega) (by decide) (by omega) ha hb
theorem C_ton (h : PQs K V p F B) : ∃ r, f_Study_tonic K p F B = some (r, F, B) ∧ -7 < r ∧ r < 14 := by
  have h2 := h.2.2.1
  have h3 := h.2.2.2.1
  have key : ∀ a b, r32 (a + b) → ∃ r, f_Study_tonic_19 K a b F B = some (r, F, B) ∧ -7 < r ∧ r < 14 := fun a b hab => by
    obtain ⟨m, F', B', em, rfl, rfl, m0, m1⟩ := s_fm (K := K) (a := a + b) (b := 7) (F := F) (B := B) hab (by decide) (by decide)
    unfold f_Study_tonic_19
    rw [em, zb_s]
    exact ⟨m, rfl, by omega, by omega⟩
  unfold f_Study_tonic
  rw [if_pos h.1, if_pos (by unfold r32; omega)]
  by_cases c : F 6 p 3 = 1
  · rw [if_pos c]; exact key _ _ (by unfold r32; omega)
  · rw [if_neg c]; exact key _ _ (by unfold r32; omega)
theorem C_ct15 {j l3 : Int} (hK : 60000 ≤ K.1) (h : PQs K V p F B) (ht : 0 ≤ t ∧ t < K.2 9) (hS : SBb t B) (hj : 0 ≤ j ∧ j < 800) (h3 : r32 l3) : ∀ (d N : Nat) (i a b : Int), i + d = 7 → 0 ≤ i → d < N → (-1 ≤ a ∧ a ≤ 6) → (0 ≤ b ∧ b ≤ 100 * i) → zR (f_Study_chordTold_15 K N i a b t p j l3 F B) F B := by
  have hV := h.2.1
  intro d
  induction d with
  | zero =>
    intro N i a b hi i0 hN ha hb
    obtain ⟨n, rfl⟩ : ∃ n, N = n + 1 := ⟨N - 1, by omega⟩
    rw [f_Study_chordTold_15, if_pos (by unfold r32; omega), if_pos (by omega)]
    unfold f_Study_chordTold_89 f_Study_chordTold_189
    refine zR_g h3 (zR_i (fun _ => zR_g (by unfold r32; omega) zR_s) (fun _ => zR_g (by unfold r32; omega) (zR_i (fun _ => zR_i (fun _ => zR_s) (fun _ => zR_s)) (fun na => zR_i (fun _ => zR_g ht ?_) (fun _ => zR_i (fun _ => zR_s) (fun _ => zR_i (fun _ => zR_g ht ?_) (fun _ => zR_i (fun _ => zR_g ht ?_) (fun _ => zR_i (fun _ => ?_) (fun _ => zR_g ht ?_)))))))))
    · obtain ⟨r, e, r0, r1⟩ := C_ck2 (a := a) (F := F) hK ht hS (by omega) 7 K.1 0 (by omega) (by decide) (by omega)
      have e' : f_Study_chordKind K t a F B = some (r, F, B) := e
      rw [e', zb_s]
      exact zR_g (by unfold r32; omega) zR_s
    · obtain ⟨r, e, r0, r1⟩ := C_alt (F := F) (B := B) ht (l := a) (by omega)
      rw [e, zb_s]
      exact zR_g (by unfold r32; omega) zR_s
    · obtain ⟨r, e, r0, r1⟩ := C_bs10 hK h ht hS hj V.toNat K.1 0 0 1000 (by omega) (by decide) (by omega) (by omega) (by omega)
      have e' : f_Study_bassLetter K t p j F B = some (r, F, B) := e
      obtain ⟨m, F', B', em, rfl, rfl, m0, m1⟩ := s_fm (K := K) (a := r - a) (b := 7) (F := F) (B := B) (by unfold r32; omega) (by decide) (by decide)
      rw [e', zb_s, em, zb_s]
      exact zR_g (zdv_R _ _) zR_s
    · obtain ⟨r, e, r0, r1⟩ := C_ton h
      obtain ⟨m, F', B', em, rfl, rfl, m0, m1⟩ := s_fm (K := K) (a := a - r) (b := 7) (F := F) (B := B) (by unfold r32; omega) (by decide) (by decide)
      rw [e, zb_s, em, zb_s]
      exact zR_g (by unfold r32; omega) zR_s
    · obtain ⟨r, e, r01⟩ := C_isFo hK h ht 7 K.1 0 (by omega) (by decide) (by omega)
      have e' : f_Study_isForeign K t p F B = some (r, F, B) := e
      rw [e', zb_s]
      exact zR_g (by unfold r32; omega) (zR_i (fun _ => zR_s) (fun _ => zR_s))
  | succ d ih =>
    intro N i a b hi i0 hN ha hb
    obtain ⟨n, rfl⟩ : ∃ n, N = n + 1 := ⟨N - 1, by omega⟩
    obtain ⟨r, e, r0, r1⟩ := C_bit (K := K) (F := F) (B := B) (B 9 t 10 i)
    obtain ⟨s, e2, s0, s1⟩ := C_ck2 (a := i) (F := F) hK ht hS (by omega) 7 K.1 0 (by omega) (by decide) (by omega)
    have e2' : f_Study_chordKind K t i F B = some (s, F, B) := e2
    rw [f_Study_chordTold_15, if_pos (by unfold r32; omega), if_neg (by omega), if_pos ht, if_pos (by omega), e, zb_s, e2', zb_s, if_pos (by unfold r32; omega)]
    unfold f_Study_chordTold_54
    exact zR_i (fun _ => ih n (i + 1) a (b + r) (by omega) (by omega) (by omega) ha (by omega)) (fun _ => ih n (i + 1) i (b + r) (by omega) (by omega) (by omega) (by omega) (by omega))
end
section
variable {K : zK} {V p t : Int} {F : zF}
def stT (t : Int) (B B' : zB) : Prop := ∀ c y k x, ¬ (c = 9 ∧ y = t ∧ k = 10) → B' c y k x = B c y k x
theorem stT_r {t : Int} {B : zB} : stT t B B := fun _ _ _ _ _ => rfl
theorem stT_t {t : Int} {B B1 B2 : zB} (h : stT t B B1) (h' : stT t B1 B2) : stT t B B2 := fun c y k x n => by rw [h' c y k x n, h c y k x n]
theorem stT_w {t i x : Int} {B : zB} : stT t B (zup4 B 9 t 10 i x) := fun c y j z n => by rw [zup4_v, if_neg (by omega)]
theorem stT_B {t : Int} {B B' : zB} (h : stT t B B') : stB t B B' := fun c y k x n => h c y k x (by omega)
theorem C_tc43 {e u j : Int} {B0 : zB} {rec : Int → Int → Int → Int → zF → zB → zO} {Q : zO → Prop} (ht : 0 ≤ t ∧ t < K.2 9) (he : e < 0 ∨ EKc K e F B0) (go : ∀ B, stT t B0 B → SBb t B → Q (rec (u + 1) t p j F B)) : ∀ (d N : Nat) (i : Int) (B : zB), (0 ≤ e → i + d = F 1 e 10) → (e < 0 → d = 0) → 0 ≤ i → d < N → stT t B0 B → SBb t B → Q (f_Study_takeClasses_43 rec K N i e u t p j F B) := by
  intro d
  induction d with
  | zero =>
    intro N i B hi hd i0 hN b hS
    obtain ⟨n, rfl⟩ : ∃ n, N = n + 1 := ⟨N - 1, by omega⟩
    rw [f_Study_takeClasses_43]
    rcases he with z | ek
    · rw [if_pos z]; exact go B b hS
    · have k := ek.1
      have k10 := ek.2.1
      have := hi k.1
      rw [if_neg (by omega), if_pos ek.1, if_pos (by unfold r32; omega), if_pos (by unfold r32; omega), if_pos (by omega)]
      exact go B b hS
  | succ d ih =>
    intro N i B hi hd i0 hN b hS
    obtain ⟨n, rfl⟩ : ∃ n, N = n + 1 := ⟨N - 1, by omega⟩
    rw [f_Study_takeClasses_43]
    rcases he with z | ek
    · have := hd z; omega
    have k := ek.1
    have k10 := ek.2.1
    have hi' := hi k.1
    have kx := ek.2.2 i i0 (by omega)
    have e12 : B 1 e 12 i = B0 1 e 12 i := b 1 e 12 i (by omega)
    have ez : zrm (B 1 e 12 i) 7 = B0 1 e 12 i % 7 := by rw [e12]; exact zrm_e kx.1.1 (by unfold r32; omega) (by decide) (by decide)
    rw [if_neg (by omega), if_pos ek.1, if_pos (by unfold r32; omega), if_pos (by unfold r32; omega), if_neg (by omega), if_pos ht, if_pos (by omega), ez, if_pos (by omega)]
    exact ih n (i + 1) _ (fun _ => by omega) (fun z => by omega) (by omega) (by omega) (stT_t b stT_w) (SB_w hS (by omega) (by omega) (by omega) (by omega) (fun _ => toI_r _))
theorem C_tc23 {j : Int} {B0 : zB} (hK : 60000 ≤ K.1) (h : PQs K V p F B0) (ht : 0 ≤ t ∧ t < K.2 9) (hj : 0 ≤ j ∧ j < 800) : ∀ (d N : Nat) (u : Int) (B : zB), u + d = V → 0 ≤ u → d < N → stT t B0 B → SBb t B → ∃ B', f_Study_takeClasses_23 K N u t p j F B = some (0, F, B') ∧ stT t B0 B' ∧ SBb t B' := by
  have hV := h.2.1
  intro d
  induction d with
  | zero =>
    intro N u B hu u0 hN b hS
    obtain ⟨n, rfl⟩ : ∃ n, N = n + 1 := ⟨N - 1, by omega⟩
    rw [f_Study_takeClasses_23, if_pos h.1, if_pos (by unfold r32; omega), if_pos (by unfold r32; omega), if_pos (by omega)]
    exact ⟨B, rfl, b, hS⟩
  | succ d ih =>
    intro N u B hu u0 hN b hS
    obtain ⟨n, rfl⟩ : ∃ n, N = n + 1 := ⟨N - 1, by omega⟩
    obtain ⟨r, e, hr⟩ := C_evO (PKs_f h stF_r (stT_B b)) ht hS u0 (by omega) hj
    rw [f_Study_takeClasses_23, if_pos h.1, if_pos (by unfold r32; omega), if_pos (by unfold r32; omega), if_neg (by omega), if_pos ht, e, zb_s]
    have he : r < 0 ∨ EKc K r F B0 := by
      rcases hr with z | z
      · exact Or.inl (by omega)
      · refine Or.inr ?_
        have ek := z.1
        unfold EKc at *
        simp only [b 1 r 12 _ (by omega), b 1 r 13 _ (by omega)] at ek
        exact ek
    have k10 : 0 ≤ r → 0 ≤ F 1 r 10 ∧ F 1 r 10 ≤ 6 := fun z => by
      rcases he with y | y
      · omega
      · exact y.2.1
    by_cases z : r < 0
    · exact C_tc43 (Q := fun x => ∃ B', x = some (0, F, B') ∧ stT t B0 B' ∧ SBb t B') (rec := f_Study_takeClasses_23 K n) ht he (fun B b hS => ih n (u + 1) B (by omega) (by omega) (by omega) b hS) 0 K.1 0 B (fun y => by omega) (fun _ => rfl) (by decide) (by omega) b hS
    · have k := k10 (by omega)
      exact C_tc43 (Q := fun x => ∃ B', x = some (0, F, B') ∧ stT t B0 B' ∧ SBb t B') (rec := f_Study_takeClasses_23 K n) ht he (fun B b hS => ih n (u + 1) B (by omega) (by omega) (by omega) b hS) (F 1 r 10).toNat K.1 0 B (fun y => by omega) (fun y => by omega) (by decide) (by omega) b hS
theorem C_tc2 {j : Int} (ht : 0 ≤ t ∧ t < K.2 9) : ∀ (d N : Nat) (i : Int) (B : zB), i + d = 7 → 0 ≤ i → d < N → SBb t B → ∃ B', f_Study_takeClasses_2 K N i t p j F B = f_Study_takeClasses_23 K K.1 0 t p j F B' ∧ stT t B B' ∧ SBb t B' := by
  intro d
  induction d with
  | zero =>
    intro N i B hi i0 hN hS
    obtain ⟨n, rfl⟩ : ∃ n, N = n + 1 := ⟨N - 1, by omega⟩
    rw [f_Study_takeClasses_2, if_pos (by unfold r32; omega), if_pos (by omega)]
    exact ⟨B, rfl, stT_r, hS⟩
  | succ d ih =>
    intro N i B hi i0 hN hS
    obtain ⟨n, rfl⟩ : ∃ n, N = n + 1 := ⟨N - 1, by omega⟩
    rw [f_Study_takeClasses_2, if_pos (by unfold r32; omega), if_neg (by omega), if_pos ht, if_pos (by omega)]
    obtain ⟨B', g1, g2, g3⟩ := ih n (i + 1) (zup4 B 9 t 10 i 0) (by omega) (by omega) (by omega) (SB_w hS (by omega) (by omega) (by omega) (by omega) (fun _ => by decide))
    exact ⟨B', g1, stT_t stT_w g2, g3⟩
theorem C_told2 {j l3 : Int} {B : zB} (hK : 60000 ≤ K.1) (h : PQs K V p F B) (ht : 0 ≤ t ∧ t < K.2 9) (hS : SBb t B) (hj : 0 ≤ j ∧ j < 800) (h3 : r32 l3) : ∃ r B', f_Study_chordTold K t p j l3 F B = some (r, F, B') ∧ stT t B B' ∧ SBb t B' := by
  have hV := h.2.1
  obtain ⟨B1, e1, g1, g2⟩ := C_tc2 (p := p) (j := j) (F := F) ht 7 K.1 0 B (by omega) (by decide) (by omega) hS
  obtain ⟨B2, e2, k1, k2⟩ := C_tc23 (F := F) (B0 := B1) hK (PKs_f h stF_r (stT_B g1)) ht hj V.toNat K.1 0 B1 (by omega) (by decide) (by omega) stT_r g2
  have e : f_Study_takeClasses K t p j F B = some (0, F, B2) := by
    unfold f_Study_takeClasses
    rw [e1, e2]
  obtain ⟨r, e3⟩ := C_ct15 (l3 := l3) hK (PKs_f h stF_r (stT_B (stT_t g1 k1))) ht k2 hj h3 7 K.1 0 (-1) 0 (by omega) (by decide) (by omega) (by omega) (by omega)
  unfold f_Study_chordTold
  rw [if_pos ht, e, zb_s, e3]
  exact ⟨r, B2, rfl, stT_t g1 k1, k2⟩
end
end
end
