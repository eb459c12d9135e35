section
/-! ===== study: faults, and the whole look ===== -/
def FSt (t : Int) (F0 : zF) (B0 : zB) (F : zF) (B : zB) : Prop := stF t F0 F ∧ stB t B0 B ∧ SBb t B ∧ (0 ≤ F 9 t 2 ∧ F 9 t 2 ≤ 300) ∧ F 9 t 0 = F0 9 t 0
def FQt (t : Int) (F0 : zF) (B0 : zB) (x : zO) : Prop := ∃ F' B', x = some (0, F', B') ∧ FSt t F0 B0 F' B'
section
variable {K : zK} {V p t : Int} {F0 : zF} {B0 : zB}
theorem C_addF {a b c d : Int} {F : zF} {B : zB} (ht : 0 ≤ t ∧ t < K.2 9) (h : FSt t F0 B0 F B) : FQt t F0 B0 (f_Study_addFault K t a b c d F B) := by
  have h' := h
  obtain ⟨f, b', hS, h2, h0⟩ := h
  unfold f_Study_addFault
  rw [if_pos ht, if_pos (by unfold r32; omega)]
  by_cases z : F 9 t 2 < 300
  · rw [if_pos z, if_pos (by first | decide | omega)]
    refine ⟨_, _, rfl, stF_t f (stF_w (by first | decide | omega)), stB_t b' (stB_t stB_w (stB_t stB_w (stB_t stB_w stB_w))), ?_, by rw [zup3_v, if_pos ⟨rfl, rfl, rfl⟩]; omega, by rw [zup3_v, if_neg (by first | decide | omega)]; exact h0⟩
    exact SB_w (SB_w (SB_w (SB_w hS (by first | decide | omega) (by first | decide | omega) (by first | decide | omega) (by first | decide | omega) (by first | decide | omega)) (by first | decide | omega) (by first | decide | omega) (by first | decide | omega) (by first | decide | omega) (by first | decide | omega)) (by first | decide | omega) (by first | decide | omega) (by first | decide | omega) (by first | decide | omega) (by first | decide | omega)) (by first | decide | omega) (by first | decide | omega) (by first | decide | omega) (by first | decide | omega) (by first | decide | omega)
  · rw [if_neg z]; exact ⟨F, B, rfl, h'⟩
theorem C_ff22 {u k j : Int} {rec2 : Int → Int → Int → Int → zF → zB → zO} {rec10 : Int → Int → Int → Int → Int → zF → zB → zO} (ht : 0 ≤ t ∧ t < K.2 9) (V4 : 1 ≤ V ∧ V ≤ 4) (hu : 0 ≤ u ∧ u < V) (hk : r32 k) (go : ∀ F B, FSt t F0 B0 F B → FQt t F0 B0 (rec10 (u + 1) k t V j F B)) : ∀ (d N : Nat) (v : Int) (F : zF) (B : zB), V ≤ v + d → 0 ≤ v → v ≤ 4 → d < N → FSt t F0 B0 F B → FQt t F0 B0 (f_Study_findFaults_22 rec2 rec10 K N v u k t V j F B) := by
  intro d
  induction d with
  | zero =>
    intro N v F B hv v0 v1 hN h
    obtain ⟨n, rfl⟩ : ∃ n, N = n + 1 := ⟨N - 1, (by first | decide | omega)⟩
    rw [f_Study_findFaults_22, if_pos (by unfold r32; omega), if_pos (by unfold r32; omega), if_pos (by first | decide | omega)]
    exact go F B h
  | succ d ih =>
    intro N v F B hv v0 v1 hN h
    obtain ⟨n, rfl⟩ : ∃ n, N = n + 1 := ⟨N - 1, (by first | decide | omega)⟩
    rw [f_Study_findFaults_22, if_pos (by unfold r32; omega), if_pos (by unfold r32; omega)]
    by_cases c : V ≤ v
    · rw [if_pos c]; exact go F B h
    obtain ⟨r, F', B', e, rfl, rfl, r01⟩ := s_two (K := K) (t := t) (k := k) (u := u) (v := v) (F := F) (B := B) ht (by first | decide | omega) (by first | decide | omega) hk h.2.2.1.2.2
    rw [if_neg c, if_pos ht, e, zb_s, if_pos (by unfold r32; omega)]
    by_cases c1 : r = 0
    · rw [if_pos c1]
      exact ih n (v + 1) F' B' (by first | decide | omega) (by first | decide | omega) (by first | decide | omega) (by first | decide | omega) h
    · rw [if_neg c1]
      obtain ⟨F1, B1, e1, h1⟩ := C_addF (a := j) (b := k) (c := u) (d := v) ht h
      rw [e1, zb_s]
      exact ih n (v + 1) F1 B1 (by first | decide | omega) (by first | decide | omega) (by first | decide | omega) (by first | decide | omega) h1
theorem C_ff10 {k j : Int} {rec2 : Int → Int → Int → Int → zF → zB → zO} (hK : 60000 ≤ K.1) (ht : 0 ≤ t ∧ t < K.2 9) (V4 : 1 ≤ V ∧ V ≤ 4) (hk : r32 k) (go : ∀ F B, FSt t F0 B0 F B → FQt t F0 B0 (rec2 (k + 1) t V j F B)) : ∀ (d N : Nat) (u : Int) (F : zF) (B : zB), V ≤ u + d → 0 ≤ u → u ≤ 4 → d < N → FSt t F0 B0 F B → FQt t F0 B0 (f_Study_findFaults_10 rec2 K N u k t V j F B) := by
  intro d
  induction d with
  | zero =>
    intro N u F B hu u0 u1 hN h
    obtain ⟨n, rfl⟩ : ∃ n, N = n + 1 := ⟨N - 1, (by first | decide | omega)⟩
    rw [f_Study_findFaults_10, if_pos (by unfold r32; omega), if_pos (by unfold r32; omega), if_pos (by first | decide | omega)]
    exact go F B h
  | succ d ih =>
    intro N u F B hu u0 u1 hN h
    obtain ⟨n, rfl⟩ : ∃ n, N = n + 1 := ⟨N - 1, (by first | decide | omega)⟩
    rw [f_Study_findFaults_10, if_pos (by unfold r32; omega), if_pos (by unfold r32; omega)]
    by_cases c : V ≤ u
    · rw [if_pos c]; exact go F B h
    rw [if_neg c]
    exact C_ff22 ht V4 (by first | decide | omega) hk (fun F B h => ih n (u + 1) F B (by first | decide | omega) (by first | decide | omega) (by first | decide | omega) (by first | decide | omega) h) 4 K.1 (u + 1) F B (by first | decide | omega) (by first | decide | omega) (by first | decide | omega) (by first | decide | omega) h
theorem C_ff79 {k j : Int} {rec : Int → Int → Int → Int → zF → zB → zO} (ht : 0 ≤ t ∧ t < K.2 9) (V4 : 1 ≤ V ∧ V ≤ 4) (hk : r32 k) (go : ∀ F B, FSt t F0 B0 F B → FQt t F0 B0 (rec (k + 1) t V j F B)) : ∀ (d N : Nat) (u : Int) (F : zF) (B : zB), V ≤ u + d → 0 ≤ u → u ≤ 4 → d < N → FSt t F0 B0 F B → FQt t F0 B0 (f_Study_findFaults_79 rec K N u k t V j F B) := by
  intro d
  induction d with
  | zero =>
    intro N u F B hu u0 u1 hN h
    obtain ⟨n, rfl⟩ : ∃ n, N = n + 1 := ⟨N - 1, (by first | decide | omega)⟩
    rw [f_Study_findFaults_79, if_pos (by unfold r32; omega), if_pos (by unfold r32; omega), if_pos (by first | decide | omega)]
    exact go F B h
  | succ d ih =>
    intro N u F B hu u0 u1 hN h
    obtain ⟨n, rfl⟩ : ∃ n, N = n + 1 := ⟨N - 1, (by first | decide | omega)⟩
    rw [f_Study_findFaults_79, if_pos (by unfold r32; omega), if_pos (by unfold r32; omega)]
    by_cases c : V ≤ u
    · rw [if_pos c]; exact go F B h
    obtain ⟨r, F', B', e, rfl, rfl, r01⟩ := s_one (K := K) (t := t) (k := k) (u := u) (F := F) (B := B) ht (by first | decide | omega) hk h.2.2.1.2.2
    rw [if_neg c, if_pos ht, e, zb_s, if_pos (by unfold r32; omega)]
    by_cases c1 : r = 0
    · rw [if_pos c1]
      exact ih n (u + 1) F' B' (by first | decide | omega) (by first | decide | omega) (by first | decide | omega) (by first | decide | omega) h
    · rw [if_neg c1]
      obtain ⟨F1, B1, e1, h1⟩ := C_addF (a := j) (b := k) (c := u) (d := -1) ht h
      rw [e1, zb_s]
      exact ih n (u + 1) F1 B1 (by first | decide | omega) (by first | decide | omega) (by first | decide | omega) (by first | decide | omega) h1
theorem C_ff70 {j : Int} (hK : 60000 ≤ K.1) (ht : 0 ≤ t ∧ t < K.2 9) (V4 : 1 ≤ V ∧ V ≤ 4) : ∀ (d N : Nat) (k : Int) (F : zF) (B : zB), 7 ≤ k + d → 0 ≤ k → k ≤ 7 → d < N → FSt t F0 B0 F B → FQt t F0 B0 (f_Study_findFaults_70 K N k t V j F B) := by
  intro d
  induction d with
  | zero =>
    intro N k F B hk k0 k1 hN h
    obtain ⟨n, rfl⟩ : ∃ n, N = n + 1 := ⟨N - 1, (by first | decide | omega)⟩
    rw [f_Study_findFaults_70, if_pos (by unfold r32; omega), if_pos (by first | decide | omega)]
    exact ⟨F, B, rfl, h⟩
  | succ d ih =>
    intro N k F B hk k0 k1 hN h
    obtain ⟨n, rfl⟩ : ∃ n, N = n + 1 := ⟨N - 1, (by first | decide | omega)⟩
    rw [f_Study_findFaults_70, if_pos (by unfold r32; omega)]
    by_cases c : 6 < k
    · rw [if_pos c]; exact ⟨F, B, rfl, h⟩
    · rw [if_neg c]
      exact C_ff79 ht V4 (by unfold r32; omega) (fun F B h => ih n (k + 1) F B (by first | decide | omega) (by first | decide | omega) (by first | decide | omega) (by first | decide | omega) h) 4 K.1 0 F B (by first | decide | omega) (by decide) (by first | decide | omega) (by first | decide | omega) h
theorem C_ff2 {j : Int} (hK : 60000 ≤ K.1) (ht : 0 ≤ t ∧ t < K.2 9) (V4 : 1 ≤ V ∧ V ≤ 4) : ∀ (d N : Nat) (k : Int) (F : zF) (B : zB), 5 ≤ k + d → 0 ≤ k → k ≤ 5 → d < N → FSt t F0 B0 F B → FQt t F0 B0 (f_Study_findFaults_2 K N k t V j F B) := by
  intro d
  induction d with
  | zero =>
    intro N k F B hk k0 k1 hN h
    obtain ⟨n, rfl⟩ : ∃ n, N = n + 1 := ⟨N - 1, (by first | decide | omega)⟩
    rw [f_Study_findFaults_2, if_pos (by unfold r32; omega), if_pos (by first | decide | omega)]
    exact C_ff70 hK ht V4 7 K.1 5 F B (by first | decide | omega) (by decide) (by first | decide | omega) (by first | decide | omega) h
  | succ d ih =>
    intro N k F B hk k0 k1 hN h
    obtain ⟨n, rfl⟩ : ∃ n, N = n + 1 := ⟨N - 1, (by first | decide | omega)⟩
    rw [f_Study_findFaults_2, if_pos (by unfold r32; omega)]
    by_cases c : 4 < k
    · rw [if_pos c]
      exact C_ff70 hK ht V4 7 K.1 5 F B (by first | decide | omega) (by decide) (by first | decide | omega) (by first | decide | omega) h
    · rw [if_neg c]
      exact C_ff10 hK ht V4 (by unfold r32; omega) (fun F B h => ih n (k + 1) F B (by first | decide | omega) (by first | decide | omega) (by first | decide | omega) (by first | decide | omega) h) 4 K.1 0 F B (by first | decide | omega) (by decide) (by first | decide | omega) (by first | decide | omega) h
theorem C_lt12 (hK : 60000 ≤ K.1) (hq : PQs K V p F0 B0) (ht : 0 ≤ t ∧ t < K.2 9) (h0 : 0 ≤ F0 9 t 0 ∧ F0 9 t 0 ≤ 800) : ∀ (d N : Nat) (j : Int) (F : zF) (B : zB), F0 9 t 0 ≤ j + d → 0 ≤ j → j ≤ 800 → d < N → FSt t F0 B0 F B → FQt t F0 B0 (f_Study_lookThrough_12 K N j t p F B) := by
  have V4 := hq.2.1
  intro d
  induction d with
  | zero =>
    intro N j F B hj j0 j1 hN h
    obtain ⟨n, rfl⟩ : ∃ n, N = n + 1 := ⟨N - 1, (by first | decide | omega)⟩
    have e0 := h.2.2.2.2
    rw [f_Study_lookThrough_12, if_pos ht, if_pos (by unfold r32; omega), if_pos (by unfold r32; omega), if_pos (by first | decide | omega)]
    exact ⟨F, B, rfl, h⟩
  | succ d ih =>
    intro N j F B hj j0 j1 hN h
    obtain ⟨n, rfl⟩ : ∃ n, N = n + 1 := ⟨N - 1, (by first | decide | omega)⟩
    obtain ⟨f, b, hS, h2, e0⟩ := h
    rw [f_Study_lookThrough_12, if_pos ht, if_pos (by unfold r32; omega), if_pos (by unfold r32; omega)]
    by_cases c : F 9 t 0 ≤ j
    · rw [if_pos c]; exact ⟨F, B, rfl, f, b, hS, h2, e0⟩
    rw [if_neg c, if_pos (by unfold r32; omega)]
    by_cases c1 : 300 ≤ F 9 t 2
    · rw [if_pos c1]; exact ⟨F, B, rfl, f, b, hS, h2, e0⟩
    obtain ⟨B1, e1, g1, g2⟩ := C_tl2 (j := j) (F := F) hK ht (by first | decide | omega) V.toNat K.1 0 B (by first | decide | omega) (by decide) (by first | decide | omega) (PKs_f hq f b) hS
    have e1' : f_Study_takeLines K t p j F B = some (0, F, B1) := e1
    have h1 : FSt t F0 B0 F B1 := ⟨f, stB_t b g1, g2, h2, e0⟩
    have e6 : F 6 p 1 = V := by rw [f 6 p 1 (by first | decide | omega)]; exact V4.1
    rw [if_neg c1, e1', zb_s]
    unfold f_Study_lookThrough_49
    by_cases c2 : j ≤ 0
    · rw [if_pos c2]
      exact ih n (j + 1) F B1 (by first | decide | omega) (by first | decide | omega) (by first | decide | omega) (by first | decide | omega) h1
    · obtain ⟨F2, B2, e2, h2'⟩ := C_ff2 (j := j) hK ht V4.2 5 K.1 1 F B1 (by first | decide | omega) (by decide) (by first | decide | omega) (by first | decide | omega) h1
      have e2' : f_Study_findFaults K t V j F B1 = some (0, F2, B2) := e2
      rw [if_neg c2, if_pos hq.1, e6, e2', zb_s]
      exact ih n (j + 1) F2 B2 (by first | decide | omega) (by first | decide | omega) (by first | decide | omega) (by first | decide | omega) h2'
theorem C_look {F : zF} {B : zB} (hK : 60000 ≤ K.1) (hq : PQs K V p F B) (ht : 0 ≤ t ∧ t < K.2 9) (hS : SBb t B) : ∃ F' B', f_Study_lookThrough K t p F B = some (0, F', B') ∧ stF t F F' ∧ stB t B B' ∧ STu t F' B' := by
  obtain ⟨F1, B1, e1, f1, b1, s1, n0⟩ := C_fmo hK hq ht hS
  have f2 : stF t F1 (zup3 F1 9 t 2 0) := stF_w (by first | decide | omega)
  obtain ⟨F2, B2, e2, g1, g2, g3, g4, g5⟩ := C_lt12 (F0 := zup3 F1 9 t 2 0) (B0 := B1) hK (PKs_f (PKs_f hq f1 b1) f2 stB_r) ht (by rw [zup3_v, if_neg (by first | decide | omega)]; exact n0) 800 K.1 0 (zup3 F1 9 t 2 0) B1 (by rw [zup3_v, if_neg (by first | decide | omega)]; omega) (by decide) (by first | decide | omega) (by first | decide | omega) ⟨stF_r, stB_r, s1, by rw [zup3_v, if_pos ⟨rfl, rfl, rfl⟩]; omega, rfl⟩
  unfold f_Study_lookThrough
  rw [if_pos ht, e1, zb_s, e2]
  rw [zup3_v, if_neg (by first | decide | omega)] at g5
  exact ⟨F2, B2, rfl, stF_t f1 (stF_t f2 g1), stB_t b1 g2, (by first | decide | omega), g4, g3⟩
end
end
