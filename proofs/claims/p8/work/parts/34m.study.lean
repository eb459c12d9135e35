section
/-! ===== study: moments and lines, class ===== -/
def SBb (t : Int) (B : zB) : Prop := (∀ j, 0 ≤ B 9 t 1 j ∧ B 9 t 1 j ≤ 1000000000000) ∧ (∀ k j, 280 ≤ k → k ≤ 283 → -1 ≤ B 9 t k j ∧ B 9 t k j ≤ 199) ∧ ∀ j, (-1 ≤ B 9 t 5 j ∧ B 9 t 5 j ≤ 200) ∧ (-1 ≤ B 9 t 6 j ∧ B 9 t 6 j ≤ 200) ∧ (-1 ≤ B 9 t 7 j ∧ B 9 t 7 j ≤ 200) ∧ (-1 ≤ B 9 t 8 j ∧ B 9 t 8 j ≤ 200) ∧ (0 ≤ B 9 t 9 j ∧ B 9 t 9 j ≤ 1) ∧ r32 (B 9 t 10 j)
def stF (t : Int) (F F' : zF) : Prop := ∀ c y k, ¬ (c = 9 ∧ y = t ∧ (k = 0 ∨ k = 2)) → F' c y k = F c y k
def stB (t : Int) (B B' : zB) : Prop := ∀ c y k x, ¬ (c = 9 ∧ y = t) → B' c y k x = B c y k x
theorem stF_r {t : Int} {F : zF} : stF t F F := fun _ _ _ _ => rfl
theorem stB_r {t : Int} {B : zB} : stB t B B := fun _ _ _ _ _ => rfl
theorem stF_t {t : Int} {F F1 F2 : zF} (h : stF t F F1) (h' : stF t F1 F2) : stF t F F2 := fun c y k n => by rw [h' c y k n, h c y k n]
theorem stB_t {t : Int} {B B1 B2 : zB} (h : stB t B B1) (h' : stB t B1 B2) : stB t B B2 := fun c y k x n => by rw [h' c y k x n, h c y k x n]
theorem stF_w {t x : Int} {F : zF} {k : Nat} (hk : k = 0 ∨ k = 2) : stF t F (zup3 F 9 t k x) := fun c y j n => by rw [zup3_v, if_neg (by first | decide | omega)]
theorem stB_w {t i x : Int} {B : zB} {k : Nat} : stB t B (zup4 B 9 t k i x) := fun c y j z n => by rw [zup4_v, if_neg (by first | decide | omega)]
theorem up9 {P : Int → Prop} {B : zB} {t i x j : Int} {k r : Nat} (hx : r = k → P x) (h : P (B 9 t r j)) : P (zup4 B 9 t k i x 9 t r j) := by
  rw [zup4_v]
  split
  · rename_i q; exact hx q.2.2.1
  · exact h
theorem SB_w {t i x : Int} {B : zB} {k : Nat} (h : SBb t B) (x1 : k = 1 → 0 ≤ x ∧ x ≤ 1000000000000) (x2 : 280 ≤ k → k ≤ 283 → -1 ≤ x ∧ x ≤ 199) (x5 : k = 5 ∨ k = 6 ∨ k = 7 ∨ k = 8 → -1 ≤ x ∧ x ≤ 200) (x9 : k = 9 → 0 ≤ x ∧ x ≤ 1) (x10 : k = 10 → r32 x) : SBb t (zup4 B 9 t k i x) := by
  obtain ⟨a1, a2, a3⟩ := h
  refine ⟨fun j => up9 (P := fun v => 0 ≤ v ∧ v ≤ 1000000000000) (fun q => x1 q.symm) (a1 j), fun r j r0 r1 => up9 (P := fun v => -1 ≤ v ∧ v ≤ 199) (fun q => x2 (by first | decide | omega) (by first | decide | omega)) (a2 r j r0 r1), fun j => ?_⟩
  obtain ⟨b5, b6, b7, b8, b9, b10⟩ := a3 j
  exact ⟨up9 (P := fun v => -1 ≤ v ∧ v ≤ 200) (fun q => x5 (by first | decide | omega)) b5, up9 (P := fun v => -1 ≤ v ∧ v ≤ 200) (fun q => x5 (by first | decide | omega)) b6, up9 (P := fun v => -1 ≤ v ∧ v ≤ 200) (fun q => x5 (by first | decide | omega)) b7, up9 (P := fun v => -1 ≤ v ∧ v ≤ 200) (fun q => x5 (by first | decide | omega)) b8, up9 (P := fun v => 0 ≤ v ∧ v ≤ 1) (fun q => x9 (by first | decide | omega)) b9, up9 (P := r32) (fun q => x10 (by first | decide | omega)) b10⟩
/-- a piece as its study wants it -/
def PQs (K : zK) (V p : Int) (F : zF) (B : zB) : Prop := (0 ≤ p ∧ p < K.2 6) ∧ (F 6 p 1 = V ∧ 1 ≤ V ∧ V ≤ 4) ∧ (-7 ≤ F 6 p 2 ∧ F 6 p 2 ≤ 7) ∧ (F 6 p 3 = 0 ∨ F 6 p 3 = 1) ∧ ∀ u, 0 ≤ u → u < V → ∃ m, PKc K (B 6 p 0 u) m F B
theorem PKs_f {K : zK} {V p t : Int} {F F' : zF} {B B' : zB} (h : PQs K V p F B) (f : stF t F F') (b : stB t B B') : PQs K V p F' B' := by
  have f6 : ∀ k, F' 6 p k = F 6 p k := fun k => f 6 p k (by first | decide | omega)
  have b6 : ∀ x, B' 6 p 0 x = B 6 p 0 x := fun x => b 6 p 0 x (by first | decide | omega)
  have f4 : ∀ q k, F' 4 q k = F 4 q k := fun q k => f 4 q k (by first | decide | omega)
  have b4 : ∀ q k x, B' 4 q k x = B 4 q k x := fun q k x => b 4 q k x (by first | decide | omega)
  have g1 : ∀ q k, F' 1 q k = F 1 q k := fun q k => f 1 q k (by first | decide | omega)
  have c1 : ∀ q k x, B' 1 q k x = B 1 q k x := fun q k x => b 1 q k x (by first | decide | omega)
  unfold PQs PKc EKc at *
  simp only [f6, b6, f4, b4, g1, c1]
  exact h
section
variable {K : zK} {V p t : Int}
theorem C_evO {F : zF} {B : zB} {u j : Int} (h : PQs K V p F B) (ht : 0 ≤ t ∧ t < K.2 9) (hS : SBb t B) (u0 : 0 ≤ u) (u1 : u < V) (hj : 0 ≤ j ∧ j < 800) : ∃ r, f_Study_eventOf K t p u j F B = some (r, F, B) ∧ (r = -1 ∨ (EKc K r F B ∧ 0 ≤ F 1 r 0 ∧ F 1 r 0 ≤ 1000000000000)) := by
  have hV := h.2.1
  obtain ⟨m, q0, q1, q2, q3⟩ := h.2.2.2.2 u u0 u1
  have b := hS.2.1 (280 + u.toNat) j (by first | decide | omega) (by first | decide | omega)
  unfold f_Study_eventOf f_Study_eventOf_29 f_Study_eventOf_45
  rw [if_pos ht, if_pos (by first | decide | omega), if_pos hj, if_pos (by unfold r32; omega)]
  by_cases c : B 9 t (280 + u.toNat) j < 0
  · rw [if_pos c]; exact ⟨-1, rfl, Or.inl rfl⟩
  rw [if_neg c, if_pos h.1, if_pos q0, q1, if_pos (by unfold r32; omega)]
  by_cases c1 : B 9 t (280 + u.toNat) j < m
  · have k := q3 (B 9 t (280 + u.toNat) j) (by first | decide | omega) c1
    rw [if_pos c1, if_pos (by first | decide | omega)]; exact ⟨_, rfl, Or.inr ⟨k.1, k.2.1⟩⟩
  · rw [if_neg c1]; exact ⟨-1, rfl, Or.inl rfl⟩
theorem C_snp {F : zF} {B : zB} {j : Int} (h : PQs K V p F B) (ht : 0 ≤ t ∧ t < K.2 9) (hS : SBb t B) (hj : 0 ≤ j ∧ j < 800) : ∀ (d N : Nat) (u v : Int), u + d = V → 0 ≤ u → d < N → (-1 ≤ v ∧ v ≤ 1000000000000) → ∃ r, f_Study_nextPlace_7 K N u v t p j F B = some (r, F, B) ∧ -1 ≤ r ∧ r ≤ 1000000000000 := by
  have hV := h.2.1
  intro d
  induction d with
  | zero =>
    intro N u v hu u0 hN hv
    obtain ⟨n, rfl⟩ : ∃ n, N = n + 1 := ⟨N - 1, (by first | decide | omega)⟩
    rw [f_Study_nextPlace_7, if_pos h.1, if_pos (by unfold r32; omega), if_pos (by unfold r32; omega), if_pos (by first | decide | omega)]
    exact ⟨v, rfl, hv⟩
  | succ d ih =>
    intro N u v hu u0 hN hv
    obtain ⟨n, rfl⟩ : ∃ n, N = n + 1 := ⟨N - 1, (by first | decide | omega)⟩
    obtain ⟨m, q0, q1, q2, q3⟩ := h.2.2.2.2 u u0 (by first | decide | omega)
    have b := hS.2.1 (280 + u.toNat) j (by first | decide | omega) (by first | decide | omega)
    have nxt : ∀ v', (-1 ≤ v' ∧ v' ≤ 1000000000000) → ∃ r, f_Study_nextPlace_82 (f_Study_nextPlace_7 K n) K u v' t p j F B = some (r, F, B) ∧ -1 ≤ r ∧ r ≤ 1000000000000 := fun v' hv' => ih n (u + 1) v' (by first | decide | omega) (by first | decide | omega) (by first | decide | omega) hv'
    rw [f_Study_nextPlace_7, if_pos h.1, if_pos (by unfold r32; omega), if_pos (by unfold r32; omega), if_neg (by first | decide | omega), if_pos (by first | decide | omega), if_pos ht, if_pos hj, if_pos q0, if_pos (by unfold r32; omega), q1, if_pos (by unfold r32; omega)]
    by_cases c : m ≤ B 9 t (280 + u.toNat) j + 1
    · rw [if_pos c]; exact nxt v hv
    obtain ⟨k1, k2, k3⟩ := q3 (B 9 t (280 + u.toNat) j + 1) (by first | decide | omega) (by first | decide | omega)
    have o70 : ∃ r, f_Study_nextPlace_70 (f_Study_nextPlace_7 K n) K (B 9 t (280 + u.toNat) j + 1) (B 6 p 0 u) u t p j F B = some (r, F, B) ∧ -1 ≤ r ∧ r ≤ 1000000000000 := by
      unfold f_Study_nextPlace_70
      rw [if_pos q0, if_pos (by first | decide | omega), if_pos k1.1]
      exact nxt _ (by first | decide | omega)
    rw [if_neg c, if_pos (by unfold r64; omega)]
    by_cases c1 : zcmp v 0 < 0
    · rw [if_pos c1]; exact o70
    rw [if_neg c1, if_pos (by first | decide | omega), if_pos k1.1, if_pos (by unfold r64; omega)]
    by_cases c2 : 0 ≤ zcmp (F 1 (B 4 (B 6 p 0 u) 5 (B 9 t (280 + u.toNat) j + 1)) 0) v
    · rw [if_pos c2]; exact nxt v hv
    · rw [if_neg c2]; exact o70
theorem C_fm68 {v j : Int} {F : zF} {rec : Int → Int → Int → zF → zB → zO} (ht : 0 ≤ t ∧ t < K.2 9) (hj : 0 ≤ j ∧ j < 800) (hv : -1 ≤ v ∧ v ≤ 1000000000000) : ∀ (d N : Nat) (u : Int) (B : zB), u + d = V → 0 ≤ u → d < N → PQs K V p F B → SBb t B → ∃ B', f_Study_findMoments_68 rec K N u v j t p F B = rec (j + 1) t p (zup3 F 9 t 0 (j + 1)) B' ∧ stB t B B' ∧ SBb t B' := by
  intro d
  induction d with
  | zero =>
    intro N u B hu u0 hN h hS
    obtain ⟨n, rfl⟩ : ∃ n, N = n + 1 := ⟨N - 1, (by first | decide | omega)⟩
    have hV := h.2.1
    rw [f_Study_findMoments_68, if_pos h.1, if_pos (by unfold r32; omega), if_pos (by unfold r32; omega), if_pos (by first | decide | omega), if_pos ht]
    exact ⟨B, rfl, stB_r, hS⟩
  | succ d ih =>
    intro N u B hu u0 hN h hS
    obtain ⟨n, rfl⟩ : ∃ n, N = n + 1 := ⟨N - 1, (by first | decide | omega)⟩
    have hV := h.2.1
    obtain ⟨m, q0, q1, q2, q3⟩ := h.2.2.2.2 u u0 (by first | decide | omega)
    have zm : 0 ≤ zmax (j - 1) 0 ∧ zmax (j - 1) 0 < 800 := by unfold zmax; split <;> omega
    have b := hS.2.1 (280 + u.toNat) (zmax (j - 1) 0) (by first | decide | omega) (by first | decide | omega)
    have o136 : ∀ x s, (s = 0 ∧ 0 ≤ x ∧ x ≤ 200) ∨ (s = 1 ∧ 0 ≤ x ∧ x ≤ 199) → ∃ B', f_Study_findMoments_136 rec (f_Study_findMoments_68 rec K n) K x u v j t p s F B = rec (j + 1) t p (zup3 F 9 t 0 (j + 1)) B' ∧ stB t B B' ∧ SBb t B' := fun x s hx => by
      have o160 : ∀ y, -1 ≤ y ∧ y ≤ 199 → ∃ B', f_Study_findMoments_160 rec (f_Study_findMoments_68 rec K n) K u v j t p t u j y F B = rec (j + 1) t p (zup3 F 9 t 0 (j + 1)) B' ∧ stB t B B' ∧ SBb t B' := fun y hy => by
        unfold f_Study_findMoments_160
        rw [if_pos ht, if_pos (by first | decide | omega), if_pos hj]
        obtain ⟨B', g1, g2, g3⟩ := ih n (u + 1) (zup4 B 9 t (280 + u.toNat) j y) (by first | decide | omega) (by first | decide | omega) (by first | decide | omega) (PKs_f h stF_r stB_w) (SB_w hS (by first | decide | omega) (by first | decide | omega) (by first | decide | omega) (by first | decide | omega) (by first | decide | omega))
        exact ⟨B', g1, stB_t stB_w g2, g3⟩
      unfold f_Study_findMoments_136
      rw [if_pos ht, if_pos (by first | decide | omega), if_pos (by unfold r32; omega)]
      by_cases c : s = 0
      · rw [if_pos c]; exact o160 _ (by first | decide | omega)
      · rw [if_neg c]; exact o160 _ (by first | decide | omega)
    have o135 : ∀ x, 0 ≤ x ∧ x ≤ 200 → ∃ B', f_Study_findMoments_135 rec (f_Study_findMoments_68 rec K n) K x u v j t p F B = rec (j + 1) t p (zup3 F 9 t 0 (j + 1)) B' ∧ stB t B B' ∧ SBb t B' := fun x hx => o136 x 0 (Or.inl ⟨rfl, hx⟩)
    rw [f_Study_findMoments_68, if_pos h.1, if_pos (by unfold r32; omega), if_pos (by unfold r32; omega), if_neg (by first | decide | omega), if_pos (by first | decide | omega), if_pos ht, if_pos (by unfold r32; omega), if_pos zm, if_pos q0, if_pos (by unfold r32; omega), q1, if_pos (by unfold r32; omega)]
    by_cases c : m ≤ B 9 t (280 + u.toNat) (zmax (j - 1) 0) + 1
    · rw [if_pos c]; exact o135 _ (by first | decide | omega)
    obtain ⟨k1, k2, k3⟩ := q3 (B 9 t (280 + u.toNat) (zmax (j - 1) 0) + 1) (by first | decide | omega) (by first | decide | omega)
    rw [if_neg c, if_pos (by first | decide | omega), if_pos k1.1, if_pos (by unfold r64; omega), if_pos (by unfold r64; omega)]
    by_cases c1 : zcmp (F 1 (B 4 (B 6 p 0 u) 5 (B 9 t (280 + u.toNat) (zmax (j - 1) 0) + 1)) 0) v = 0
    · rw [if_pos c1]; exact o136 _ 1 (Or.inr ⟨rfl, (by first | decide | omega)⟩)
    · rw [if_neg c1]; exact o135 _ (by first | decide | omega)
theorem C_fm29 {F0 : zF} {B0 : zB} (hK : 60000 ≤ K.1) (h : PQs K V p F0 B0) (ht : 0 ≤ t ∧ t < K.2 9) : ∀ (d N : Nat) (j : Int) (F : zF) (B : zB), j + d = 800 → 0 ≤ j → d < N → stF t F0 F → stB t B0 B → SBb t B → F 9 t 0 = j → F 9 t 2 = F0 9 t 2 → ∃ F' B', f_Study_findMoments_29 K N j t p F B = some (0, F', B') ∧ stF t F0 F' ∧ stB t B0 B' ∧ SBb t B' ∧ (0 ≤ F' 9 t 0 ∧ F' 9 t 0 ≤ 800) ∧ F' 9 t 2 = F0 9 t 2 := by
  intro d
  induction d with
  | zero =>
    intro N j F B hj j0 hN f b hS h0 h2
    obtain ⟨n, rfl⟩ : ∃ n, N = n + 1 := ⟨N - 1, (by first | decide | omega)⟩
    rw [f_Study_findMoments_29, if_pos ht, if_pos (by unfold r32; omega), if_pos (by first | decide | omega)]
    exact ⟨F, B, rfl, f, b, hS, (by first | decide | omega), h2⟩
  | succ d ih =>
    intro N j F B hj j0 hN f b hS h0 h2
    obtain ⟨n, rfl⟩ : ∃ n, N = n + 1 := ⟨N - 1, (by first | decide | omega)⟩
    have hq := PKs_f h f b
    have hV := hq.2.1
    have zm : 0 ≤ zmax (j - 1) 0 ∧ zmax (j - 1) 0 < 800 := by unfold zmax; split <;> omega
    obtain ⟨r, e, r0, r1⟩ := C_snp hq ht hS zm V.toNat K.1 0 (-1) (by first | decide | omega) (by decide) (by first | decide | omega) (by first | decide | omega)
    have e' : f_Study_nextPlace K t p (zmax (j - 1) 0) F B = some (r, F, B) := e
    rw [f_Study_findMoments_29, if_pos ht, if_pos (by unfold r32; omega), if_neg (by first | decide | omega), if_pos (by unfold r32; omega), e', zb_s, if_pos (by unfold r64; omega)]
    by_cases c : 0 ≤ zcmp r 0
    · have rp : 0 ≤ r := by unfold zcmp at c; split at c <;> omega
      rw [if_pos c, if_pos (by first | decide | omega)]
      obtain ⟨B1, g1, g2, g3⟩ := C_fm68 (V := V) (p := p) (v := r) (j := j) (F := F) (rec := f_Study_findMoments_29 K n) ht (by first | decide | omega) (by first | decide | omega) V.toNat K.1 0 (zup4 B 9 t 1 j r) (by first | decide | omega) (by decide) (by first | decide | omega) (PKs_f hq stF_r stB_w) (SB_w hS (by first | decide | omega) (by first | decide | omega) (by first | decide | omega) (by first | decide | omega) (by first | decide | omega))
      rw [g1]
      exact ih n (j + 1) _ B1 (by first | decide | omega) (by first | decide | omega) (by first | decide | omega) (stF_t f (stF_w (by first | decide | omega))) (stB_t b (stB_t stB_w g2)) g3 (by rw [zup3_v, if_pos ⟨rfl, rfl, rfl⟩]) (by rw [zup3_v, if_neg (by first | decide | omega)]; exact h2)
    · rw [if_neg c]
      exact ⟨F, B, rfl, f, b, hS, (by first | decide | omega), h2⟩
theorem C_fm7 {F : zF} (ht : 0 ≤ t ∧ t < K.2 9) : ∀ (d N : Nat) (i : Int) (B : zB), i + d = 4 → 0 ≤ i → d < N → SBb t B → ∃ B', f_Study_findMoments_7 K N i t p F B = f_Study_findMoments_29 K K.1 0 t p F B' ∧ stB t B B' ∧ SBb t B' := by
  intro d
  induction d with
  | zero =>
    intro N i B hi i0 hN hS
    obtain ⟨n, rfl⟩ : ∃ n, N = n + 1 := ⟨N - 1, (by first | decide | omega)⟩
    rw [f_Study_findMoments_7, if_pos (by unfold r32; omega), if_pos (by first | decide | omega)]
    exact ⟨B, rfl, stB_r, hS⟩
  | succ d ih =>
    intro N i B hi i0 hN hS
    obtain ⟨n, rfl⟩ : ∃ n, N = n + 1 := ⟨N - 1, (by first | decide | omega)⟩
    rw [f_Study_findMoments_7, if_pos (by unfold r32; omega), if_neg (by first | decide | omega), if_pos ht, if_pos (by first | decide | omega)]
    obtain ⟨B', g1, g2, g3⟩ := ih n (i + 1) (zup4 B 9 t (280 + i.toNat) 0 (-1)) (by first | decide | omega) (by first | decide | omega) (by first | decide | omega) (SB_w hS (by first | decide | omega) (by first | decide | omega) (by first | decide | omega) (by first | decide | omega) (by first | decide | omega))
    exact ⟨B', g1, stB_t stB_w g2, g3⟩
theorem C_fmo {F : zF} {B : zB} (hK : 60000 ≤ K.1) (h : PQs K V p F B) (ht : 0 ≤ t ∧ t < K.2 9) (hS : SBb t B) : ∃ F' B', f_Study_findMoments K t p F B = some (0, F', B') ∧ stF t F F' ∧ stB t B B' ∧ SBb t B' ∧ (0 ≤ F' 9 t 0 ∧ F' 9 t 0 ≤ 800) := by
  obtain ⟨B1, e, g1, g2⟩ := C_fm7 (p := p) (F := zup3 F 9 t 0 0) ht 4 K.1 0 B (by first | decide | omega) (by decide) (by first | decide | omega) hS
  obtain ⟨F2, B2, e2, k1, k2, k3, k4, _⟩ := C_fm29 (F0 := zup3 F 9 t 0 0) (B0 := B1) hK (PKs_f h (stF_w (by first | decide | omega)) g1) ht 800 K.1 0 (zup3 F 9 t 0 0) B1 (by first | decide | omega) (by decide) (by first | decide | omega) stF_r stB_r g2 (by rw [zup3_v, if_pos ⟨rfl, rfl, rfl⟩]) rfl
  unfold f_Study_findMoments
  rw [if_pos ht, e, e2]
  exact ⟨F2, B2, rfl, stF_t (stF_w (by first | decide | omega)) k1, stB_t g1 k2, k3, k4⟩
theorem C_tl2 {j : Int} {F : zF} (hK : 60000 ≤ K.1) (ht : 0 ≤ t ∧ t < K.2 9) (hj : 0 ≤ j ∧ j < 800) : ∀ (d N : Nat) (u : Int) (B : zB), u + d = V → 0 ≤ u → d < N → PQs K V p F B → SBb t B → ∃ B', f_Study_takeLines_2 K N u t p j F B = some (0, F, B') ∧ stB t B B' ∧ SBb t B' := by
  intro d
  induction d with
  | zero =>
    intro N u B hu u0 hN h hS
    obtain ⟨n, rfl⟩ : ∃ n, N = n + 1 := ⟨N - 1, (by first | decide | omega)⟩
    have hV := h.2.1
    rw [f_Study_takeLines_2, if_pos h.1, if_pos (by unfold r32; omega), if_pos (by unfold r32; omega), if_pos (by first | decide | omega)]
    exact ⟨B, rfl, stB_r, hS⟩
  | succ d ih =>
    intro N u B hu u0 hN h hS
    obtain ⟨n, rfl⟩ : ∃ n, N = n + 1 := ⟨N - 1, (by first | decide | omega)⟩
    have hV := h.2.1
    obtain ⟨r, e, hr⟩ := C_evO h ht hS u0 (by first | decide | omega) hj
    have s5 := (hS.2.2 u).1
    have s6 := (hS.2.2 u).2.1
    have hS1 : SBb t (zup4 B 9 t 7 u (B 9 t 5 u)) := SB_w hS (by first | decide | omega) (by first | decide | omega) (by first | decide | omega) (by first | decide | omega) (by first | decide | omega)
    have e6 : (zup4 B 9 t 7 u (B 9 t 5 u)) 9 t 6 u = B 9 t 6 u := by rw [zup4_v, if_neg (by first | decide | omega)]
    have hS2 : SBb t (zup4 (zup4 B 9 t 7 u (B 9 t 5 u)) 9 t 8 u (B 9 t 6 u)) := SB_w hS1 (by first | decide | omega) (by first | decide | omega) (by first | decide | omega) (by first | decide | omega) (by first | decide | omega)
    have hB2 : stB t B (zup4 (zup4 B 9 t 7 u (B 9 t 5 u)) 9 t 8 u (B 9 t 6 u)) := stB_t stB_w stB_w
    rw [f_Study_takeLines_2, if_pos h.1, if_pos (by unfold r32; omega), if_pos (by unfold r32; omega), if_neg (by first | decide | omega), if_pos ht, e, zb_s, if_pos (by first | decide | omega), e6]
    generalize zup4 (zup4 B 9 t 7 u (B 9 t 5 u)) 9 t 8 u (B 9 t 6 u) = B2 at hS2 hB2 ⊢
    have h2 := PKs_f h stF_r hB2
    -- what is taken of one voice
    have o136 : ∀ (C : zB) (y : Int), stB t B2 C → SBb t C → (-1 ≤ y ∧ y ≤ 200) → ∃ B', f_Study_takeLines_136 (f_Study_takeLines_2 K n) K u t p j t u y F C = some (0, F, B') ∧ stB t B B' ∧ SBb t B' := fun C y hC sC hy => by
      unfold f_Study_takeLines_136
      rw [if_pos ht, if_pos (by first | decide | omega)]
      obtain ⟨B', g1, g2, g3⟩ := ih n (u + 1) (zup4 C 9 t 6 u y) (by first | decide | omega) (by first | decide | omega) (by first | decide | omega) (PKs_f h2 stF_r (stB_t hC stB_w)) (SB_w sC (by first | decide | omega) (by first | decide | omega) (by first | decide | omega) (by first | decide | omega) (by first | decide | omega))
      exact ⟨B', g1, stB_t hB2 (stB_t hC (stB_t stB_w g2)), g3⟩
    have o89 : ∀ (a x s : Int), (s = 0 ∨ s = 1) → (x = -1 ∨ (EKc K a F B2 ∧ 0 ≤ x ∧ x < F 1 a 10)) → ∃ B', f_Study_takeLines_89 (f_Study_takeLines_2 K n) K x a u t p j t u s F B2 = some (0, F, B') ∧ stB t B B' ∧ SBb t B' := fun a x s hs hx => by
      have sA : SBb t (zup4 B2 9 t 9 u s) := SB_w hS2 (by first | decide | omega) (by first | decide | omega) (by first | decide | omega) (by first | decide | omega) (by first | decide | omega)
      have o113 : ∀ y, (-1 ≤ y ∧ y ≤ 62) → ∃ B', f_Study_takeLines_113 (f_Study_takeLines_2 K n) K x a u t p j t u y F (zup4 B2 9 t 9 u s) = some (0, F, B') ∧ stB t B B' ∧ SBb t B' := fun y hy => by
        have sC : SBb t (zup4 (zup4 B2 9 t 9 u s) 9 t 5 u y) := SB_w sA (by first | decide | omega) (by first | decide | omega) (by first | decide | omega) (by first | decide | omega) (by first | decide | omega)
        have bC : stB t B2 (zup4 (zup4 B2 9 t 9 u s) 9 t 5 u y) := stB_t stB_w stB_w
        unfold f_Study_takeLines_113
        rw [if_pos ht, if_pos (by first | decide | omega), if_pos ht]
        rcases hx with z | ⟨ek, x0, x1⟩
        · rw [if_pos (by unfold r32; omega), if_pos z]
          exact o136 _ _ bC sC (by first | decide | omega)
        · have k10 := ek.2.1
          have kx := ek.2.2 x x0 x1
          have cb : ∀ k z, (zup4 (zup4 B2 9 t 9 u s) 9 t 5 u y) 1 a k z = B2 1 a k z := fun k z => bC 1 a k z (by first | decide | omega)
          have et := C_tone (K := K) (F := F) (B := zup4 (zup4 B2 9 t 9 u s) 9 t 5 u y) (e := a) (k := x) ek.1 (by first | decide | omega) (by rw [cb]; exact kx.1)
          have tb := tnv_r kx.1.1 kx.1.2 kx.2.1 kx.2.2
          rw [if_pos (by unfold r32; omega), if_neg (by first | decide | omega), if_pos ek.1, et, zb_s, cb, cb]
          exact o136 _ _ bC sC (by first | decide | omega)
      unfold f_Study_takeLines_89
      rw [if_pos ht, if_pos (by first | decide | omega), if_pos hs, if_pos ht]
      rcases hx with z | ⟨ek, x0, x1⟩
      · rw [if_pos (by unfold r32; omega), if_pos z]; exact o113 (-1) (by first | decide | omega)
      · have k10 := ek.2.1
        have kx := ek.2.2 x x0 x1
        rw [if_pos (by unfold r32; omega), if_neg (by first | decide | omega), if_pos ek.1, if_pos (by first | decide | omega), show (zup4 B2 9 t 9 u s) 1 a 12 x = B2 1 a 12 x by rw [zup4_v, if_neg (by first | decide | omega)]]
        exact o113 _ (by first | decide | omega)
    have o57 : ∀ (a x : Int), (a < 0 ∧ x = -1) ∨ (EKc K a F B2 ∧ (0 ≤ F 1 a 0 ∧ F 1 a 0 ≤ 1000000000000) ∧ (x = -1 ∨ (0 ≤ x ∧ x < F 1 a 10))) → ∃ B', f_Study_takeLines_57 (f_Study_takeLines_2 K n) K a u t p j x F B2 = some (0, F, B') ∧ stB t B B' ∧ SBb t B' := fun a x hx => by
      unfold f_Study_takeLines_57 f_Study_takeLines_88
      rw [if_pos ht]
      rcases hx with ⟨a0, z⟩ | ⟨ek, pl, z⟩
      · rw [if_pos a0]; exact o89 a x 0 (Or.inl rfl) (Or.inl z)
      · have z' : x = -1 ∨ (EKc K a F B2 ∧ 0 ≤ x ∧ x < F 1 a 10) := by
          rcases z with z | z
          · exact Or.inl z
          · exact Or.inr ⟨ek, z⟩
        have b1 := hS2.1 j
        rw [if_neg (by have := ek.1; omega), if_pos ek.1, if_pos hj, if_pos (by unfold r64; omega), if_pos (by unfold r64; omega)]
        by_cases c : zcmp (F 1 a 0) (B2 9 t 1 j) = 0
        · rw [if_pos c]; exact o89 a x 1 (Or.inr rfl) z'
        · rw [if_neg c]; exact o89 a x 0 (Or.inl rfl) z'
    rcases hr with r1 | ⟨ek, pl⟩
    · rw [if_pos (by first | decide | omega)]; exact o57 r (-1) (Or.inl ⟨(by first | decide | omega), rfl⟩)
    · have ek2 : EKc K r F B2 := by
        unfold EKc at *
        simp only [hB2 1 r 12 _ (by first | decide | omega), hB2 1 r 13 _ (by first | decide | omega)]
        exact ek
      have hc := ek2.2.1
      obtain ⟨x, e1, x0, x1⟩ := C_top4 ek2 (F 1 r 10).toNat K.1 0 (-1) (by first | decide | omega) (by first | decide | omega) (by first | decide | omega) (by first | decide | omega) (by first | decide | omega)
      have e1' : f_Event_top K r F B2 = some (x, F, B2) := e1
      rw [if_neg (by have := ek.1; omega), if_pos ek.1, e1', zb_s]
      exact o57 r x (Or.inr ⟨ek2, pl, (by first | decide | omega)⟩)
end
end
