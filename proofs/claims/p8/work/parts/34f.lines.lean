section
/-! ===== lines: the class's side, columns ===== -/
def LBl (l : Int) (B : zB) : Prop := ∀ j, r64 (B 2 l 1 j) ∧ (0 ≤ B 2 l 2 j ∧ B 2 l 2 j ≤ 200) ∧ (0 ≤ B 2 l 5 j ∧ B 2 l 5 j ≤ 3200) ∧ (0 ≤ B 2 l 6 j ∧ B 2 l 6 j ≤ 640006) ∧ (0 ≤ B 2 l 7 j ∧ B 2 l 7 j ≤ 100) ∧ (0 ≤ B 2 l 8 j ∧ B 2 l 8 j ≤ 100000000) ∧ (0 ≤ B 2 l 10 j ∧ B 2 l 10 j ≤ 1152921504606846976) ∧ (0 ≤ B 2 l 11 j ∧ B 2 l 11 j ≤ 100) ∧ (0 ≤ B 2 l 12 j ∧ B 2 l 12 j ≤ 800)
def lyF (l : Int) (F F' : zF) : Prop := ∀ c y k, ¬ (c = 2 ∧ y = l ∧ (k = 0 ∨ k = 4)) → F' c y k = F c y k
def lyB (l : Int) (B B' : zB) : Prop := ∀ c y k x, ¬ (c = 2 ∧ y = l) → B' c y k x = B c y k x
theorem lyF_r {l : Int} {F : zF} : lyF l F F := fun _ _ _ _ => rfl
theorem lyB_r {l : Int} {B : zB} : lyB l B B := fun _ _ _ _ _ => rfl
theorem lyF_t {l : Int} {F F1 F2 : zF} (h : lyF l F F1) (h' : lyF l F1 F2) : lyF l F F2 := fun c y k n => by rw [h' c y k n, h c y k n]
theorem lyB_t {l : Int} {B B1 B2 : zB} (h : lyB l B B1) (h' : lyB l B1 B2) : lyB l B B2 := fun c y k x n => by rw [h' c y k x n, h c y k x n]
theorem lyF_w {l x : Int} {F : zF} {k : Nat} (hk : k = 0 ∨ k = 4) : lyF l F (zup3 F 2 l k x) := fun c y j n => by rw [zup3_v, if_neg (by first | decide | omega)]
theorem lyB_w {l i x : Int} {B : zB} {k : Nat} : lyB l B (zup4 B 2 l k i x) := fun c y j z n => by rw [zup4_v, if_neg (by first | decide | omega)]
theorem up_b {P : Int → Prop} {B : zB} {l i x j : Int} {k r : Nat} (hx : r = k → P x) (h : P (B 2 l r j)) : P (zup4 B 2 l k i x 2 l r j) := by
  rw [zup4_v]
  split
  · rename_i q; exact hx q.2.2.1
  · exact h
theorem up_o {B : zB} {l i x j : Int} {k r : Nat} (hk : ¬ r = k) : zup4 B 2 l k i x 2 l r j = B 2 l r j := by rw [zup4_v, if_neg (by first | decide | omega)]
theorem up_j {B : zB} {l i x j : Int} {k r : Nat} (hj : ¬ j = i) : zup4 B 2 l k i x 2 l r j = B 2 l r j := by rw [zup4_v, if_neg (by first | decide | omega)]
theorem up_s {B : zB} {l i x : Int} {k : Nat} : zup4 B 2 l k i x 2 l k i = x := by rw [zup4_v, if_pos ⟨rfl, rfl, rfl, rfl⟩]
theorem LB_w {l i x : Int} {B : zB} {k : Nat} (h : LBl l B) (x1 : k = 1 → r64 x) (x2 : k = 2 → 0 ≤ x ∧ x ≤ 200) (x5 : k = 5 → 0 ≤ x ∧ x ≤ 3200) (x6 : k = 6 → 0 ≤ x ∧ x ≤ 640006) (x7 : k = 7 → 0 ≤ x ∧ x ≤ 100) (x8 : k = 8 → 0 ≤ x ∧ x ≤ 100000000) (x10 : k = 10 → 0 ≤ x ∧ x ≤ 1152921504606846976) (x11 : k = 11 → 0 ≤ x ∧ x ≤ 100) (x12 : k = 12 → 0 ≤ x ∧ x ≤ 800) : LBl l (zup4 B 2 l k i x) := fun j => by
  obtain ⟨a1, a2, a5, a6, a7, a8, a10, a11, a12⟩ := h j
  exact ⟨up_b (P := r64) (fun q => x1 q.symm) a1, up_b (P := fun v => 0 ≤ v ∧ v ≤ 200) (fun q => x2 q.symm) a2, up_b (P := fun v => 0 ≤ v ∧ v ≤ 3200) (fun q => x5 q.symm) a5, up_b (P := fun v => 0 ≤ v ∧ v ≤ 640006) (fun q => x6 q.symm) a6, up_b (P := fun v => 0 ≤ v ∧ v ≤ 100) (fun q => x7 q.symm) a7, up_b (P := fun v => 0 ≤ v ∧ v ≤ 100000000) (fun q => x8 q.symm) a8, up_b (P := fun v => 0 ≤ v ∧ v ≤ 1152921504606846976) (fun q => x10 q.symm) a10, up_b (P := fun v => 0 ≤ v ∧ v ≤ 100) (fun q => x11 q.symm) a11, up_b (P := fun v => 0 ≤ v ∧ v ≤ 800) (fun q => x12 q.symm) a12⟩
/-- a piece as its lines want it -/
def PQl (K : zK) (V p : Int) (F : zF) (B : zB) : Prop := (0 ≤ p ∧ p < K.2 6) ∧ (F 6 p 1 = V ∧ 1 ≤ V ∧ V ≤ 4) ∧ (-7 ≤ F 6 p 2 ∧ F 6 p 2 ≤ 7) ∧ (1 ≤ F 6 p 4 ∧ F 6 p 4 ≤ 12) ∧ (F 6 p 5 = 2 ∨ F 6 p 5 = 4 ∨ F 6 p 5 = 8 ∨ F 6 p 5 = 16) ∧ (0 ≤ F 6 p 7 ∧ F 6 p 7 ≤ 100) ∧ ∀ u, 0 ≤ u → u < V → (0 ≤ B 6 p 0 u ∧ B 6 p 0 u < K.2 4) ∧ (0 ≤ F 4 (B 6 p 0 u) 10 ∧ F 4 (B 6 p 0 u) 10 ≤ 800) ∧ ∀ i, 0 ≤ i → i < F 4 (B 6 p 0 u) 10 → (0 ≤ B 4 (B 6 p 0 u) 361 i ∧ B 4 (B 6 p 0 u) 361 i ≤ 100) ∧ (0 ≤ B 4 (B 6 p 0 u) 9 i ∧ B 4 (B 6 p 0 u) 9 i ≤ 1000000000000) ∧ (0 ≤ B 4 (B 6 p 0 u) 365 i ∧ B 4 (B 6 p 0 u) 365 i ≤ 2) ∧ r32 (B 4 (B 6 p 0 u) 367 i)
theorem PQ_f {K : zK} {V p l : Int} {F F' : zF} {B B' : zB} (h : PQl K V p F B) (f : lyF l F F') (b : lyB l B B') : PQl K V p F' B' := by
  have f6 : ∀ k, F' 6 p k = F 6 p k := fun k => f 6 p k (by first | decide | omega)
  have b6 : ∀ x, B' 6 p 0 x = B 6 p 0 x := fun x => b 6 p 0 x (by first | decide | omega)
  have f4 : ∀ q k, F' 4 q k = F 4 q k := fun q k => f 4 q k (by first | decide | omega)
  have b4 : ∀ q k x, B' 4 q k x = B 4 q k x := fun q k x => b 4 q k x (by first | decide | omega)
  unfold PQl at *
  simp only [f6, b6, f4, b4]
  exact h
section
variable {K : zK} {V p l : Int}
theorem C_lead {F : zF} {B : zB} {a : Int} (h : PQl K V p F B) (ha : r32 a) : ∃ r, f_Layout_lead K p a F B = some (r, F, B) ∧ 0 ≤ r ∧ r ≤ 100 := by
  obtain ⟨hp, _, h2, _⟩ := h
  have za : 0 ≤ zabs (F 6 p 2) ∧ zabs (F 6 p 2) ≤ 7 := by unfold zabs; split <;> omega
  unfold f_Layout_lead f_Layout_lead_22
  rw [if_pos hp, if_pos (by unfold r32; omega), if_pos ha]
  by_cases c : a = 0
  · rw [if_pos c]; exact ⟨_, rfl, (by first | decide | omega), (by first | decide | omega)⟩
  · rw [if_neg c]; exact ⟨_, rfl, (by first | decide | omega), (by first | decide | omega)⟩
theorem C_begI {F : zF} {B : zB} {u i b : Int} (h : PQl K V p F B) (u0 : 0 ≤ u) (u1 : u < V) (i0 : 0 ≤ i ∧ i ≤ 800) (rb : r32 b) : ∃ r, f_Layout_beginsIn K (B 6 p 0 u) i b F B = some (r, F, B) ∧ (r = 0 ∨ (r = 1 ∧ i < F 4 (B 6 p 0 u) 10)) := by
  obtain ⟨hq, hc, hi⟩ := h.2.2.2.2.2.2 u u0 u1
  unfold f_Layout_beginsIn f_Layout_beginsIn_24 f_Layout_beginsIn_25
  rw [if_pos hq, if_pos (by unfold r32; omega), if_pos (by unfold r32; omega)]
  by_cases c : F 4 (B 6 p 0 u) 10 ≤ i
  · rw [if_pos c, if_pos (Or.inl rfl)]; exact ⟨0, rfl, Or.inl rfl⟩
  · have k := (hi i i0.1 (by first | decide | omega)).1
    rw [if_neg c, if_pos (by first | decide | omega), if_pos (by unfold r32; omega), if_pos rb]
    by_cases c' : B 4 (B 6 p 0 u) 361 i = b
    · rw [if_pos c', if_pos (Or.inr rfl)]; exact ⟨1, rfl, Or.inr ⟨rfl, (by first | decide | omega)⟩⟩
    · rw [if_neg c', if_pos (Or.inl rfl)]; exact ⟨0, rfl, Or.inl rfl⟩
theorem C_np {F : zF} {B : zB} {b : Int} (h : PQl K V p F B) (hl : 0 ≤ l ∧ l < K.2 2) (hB : LBl l B) (rb : r32 b) : ∀ (d N : Nat) (u v : Int), u + d = V → 0 ≤ u → d < N → (-1 ≤ v ∧ v ≤ 1000000000000) → ∃ r, f_Layout_nextPlace_7 K N u v l p b F B = some (r, F, B) ∧ -1 ≤ r ∧ r ≤ 1000000000000 := by
  have hV := h.2.1
  intro d
  induction d with
  | zero =>
    intro N u v hu u0 hN hv
    obtain ⟨n, rfl⟩ : ∃ n, N = n + 1 := ⟨N - 1, (by first | decide | omega)⟩
    rw [f_Layout_nextPlace_7, if_pos h.1, if_pos (by unfold r32; omega), if_pos (by unfold r32; omega), if_pos (by first | decide | omega)]
    exact ⟨v, rfl, hv⟩
  | succ d ih =>
    intro N u v hu u0 hN hv
    obtain ⟨n, rfl⟩ : ∃ n, N = n + 1 := ⟨N - 1, (by first | decide | omega)⟩
    obtain ⟨hq, hc, hi⟩ := h.2.2.2.2.2.2 u u0 (by first | decide | omega)
    have b12 := (hB u).2.2.2.2.2.2.2.2
    obtain ⟨r, e, r01⟩ := C_begI h u0 (by first | decide | omega) (i := B 2 l 12 u) b12 rb
    have nxt : ∀ v', (-1 ≤ v' ∧ v' ≤ 1000000000000) → ∃ r, f_Layout_nextPlace_79 (f_Layout_nextPlace_7 K n) K u v' l p b F B = some (r, F, B) ∧ -1 ≤ r ∧ r ≤ 1000000000000 := fun v' hv' => ih n (u + 1) v' (by first | decide | omega) (by first | decide | omega) (by first | decide | omega) hv'
    rw [f_Layout_nextPlace_7, if_pos h.1, if_pos (by unfold r32; omega), if_pos (by unfold r32; omega), if_neg (by first | decide | omega), if_pos (by first | decide | omega), if_pos hl, if_pos hq, e, zb_s, if_pos (by unfold r32; omega)]
    by_cases c : r = 0
    · rw [if_pos c]; exact nxt v hv
    have k9 := (hi (B 2 l 12 u) b12.1 (by first | decide | omega)).2.1
    have o65 : ∃ r, f_Layout_nextPlace_65 (f_Layout_nextPlace_7 K n) K (B 6 p 0 u) u l p b F B = some (r, F, B) ∧ -1 ≤ r ∧ r ≤ 1000000000000 := by
      unfold f_Layout_nextPlace_65
      rw [if_pos hq, if_pos hl, if_pos (by first | decide | omega), if_pos (by first | decide | omega)]
      exact nxt _ (by first | decide | omega)
    rw [if_neg c, if_pos (by unfold r64; omega)]
    by_cases c1 : zcmp v 0 < 0
    · rw [if_pos c1]; exact o65
    rw [if_neg c1, if_pos (by first | decide | omega), if_pos (by unfold r64; omega)]
    by_cases c2 : 0 ≤ zcmp (B 4 (B 6 p 0 u) 9 (B 2 l 12 u)) v
    · rw [if_pos c2]; exact nxt v hv
    · rw [if_neg c2]; exact o65
theorem C_ac34 {F : zF} {b v : Int} (hl : 0 ≤ l ∧ l < K.2 2) (hF : 0 ≤ F 2 l 4 ∧ F 2 l 4 < 3200) (rb : r32 b) (hv : -1 ≤ v ∧ v ≤ 1000000000000) : ∀ (d N : Nat) (u l6 l5 : Int) (B : zB), u + d = V → 0 ≤ u → d < N → (0 ≤ l6 ∧ l6 ≤ 2) → (l5 = 0 ∨ l5 = 6) → PQl K V p F B → LBl l B → ∃ B', f_Layout_addColumn_34 K N u l6 l5 v l p b F B = some (1, F, B') ∧ LBl l B' ∧ lyB l B B' ∧ (∀ x, B' 2 l 5 x = B 2 l 5 x ∧ B' 2 l 6 x = B 2 l 6 x) ∧ B' 2 l 2 (F 2 l 4) ≤ 40 ∧ ∀ x, ¬ x = F 2 l 4 → B' 2 l 2 x = B 2 l 2 x := by
  intro d
  induction d with
  | zero =>
    intro N u l6 l5 B hu u0 hN h6 h5 h hB
    obtain ⟨n, rfl⟩ : ∃ n, N = n + 1 := ⟨N - 1, (by first | decide | omega)⟩
    have hV := h.2.1
    rw [f_Layout_addColumn_34, if_pos h.1, if_pos (by unfold r32; omega), if_pos (by unfold r32; omega), if_pos (by first | decide | omega), if_pos hl, if_pos hF]
    refine ⟨_, rfl, LB_w (LB_w hB (fun _ => by unfold r64; omega) (by first | decide | omega) (by first | decide | omega) (by first | decide | omega) (by first | decide | omega) (by first | decide | omega) (by first | decide | omega) (by first | decide | omega) (by first | decide | omega)) (by first | decide | omega) (by first | decide | omega) (by first | decide | omega) (by first | decide | omega) (by first | decide | omega) (by first | decide | omega) (by first | decide | omega) (by first | decide | omega) (by first | decide | omega), lyB_t lyB_w lyB_w, fun x => ⟨by rw [up_o (by decide), up_o (by decide)], by rw [up_o (by decide), up_o (by decide)]⟩, by rw [up_s]; omega, fun x hx => by rw [up_j hx, up_o (by decide)]⟩
  | succ d ih =>
    intro N u l6 l5 B hu u0 hN h6 h5 h hB
    obtain ⟨n, rfl⟩ : ∃ n, N = n + 1 := ⟨N - 1, (by first | decide | omega)⟩
    have hV := h.2.1
    obtain ⟨hq, hc, hi⟩ := h.2.2.2.2.2.2 u u0 (by first | decide | omega)
    have b12 := (hB u).2.2.2.2.2.2.2.2
    obtain ⟨r, e, r01⟩ := C_begI h u0 (by first | decide | omega) (i := B 2 l 12 u) b12 rb
    rw [f_Layout_addColumn_34, if_pos h.1, if_pos (by unfold r32; omega), if_pos (by unfold r32; omega), if_neg (by first | decide | omega), if_pos (by first | decide | omega), if_pos hl, if_pos hq, e, zb_s, if_pos (by unfold r32; omega)]
    have same : ∀ l6' l5', (0 ≤ l6' ∧ l6' ≤ 2) → (l5' = 0 ∨ l5' = 6) → ∃ B', f_Layout_addColumn_136 (f_Layout_addColumn_34 K n) K u l6' l5' v l p b F B = some (1, F, B') ∧ LBl l B' ∧ lyB l B B' ∧ (∀ x, B' 2 l 5 x = B 2 l 5 x ∧ B' 2 l 6 x = B 2 l 6 x) ∧ B' 2 l 2 (F 2 l 4) ≤ 40 ∧ ∀ x, ¬ x = F 2 l 4 → B' 2 l 2 x = B 2 l 2 x := fun l6' l5' q6 q5 => ih n (u + 1) l6' l5' B (by first | decide | omega) (by first | decide | omega) (by first | decide | omega) q6 q5 h hB
    by_cases c : r = 0
    · rw [if_pos c]; exact same l6 l5 h6 h5
    obtain ⟨k1, k9, k5, k7⟩ := hi (B 2 l 12 u) b12.1 (by first | decide | omega)
    rw [if_neg c, if_pos (by first | decide | omega), if_pos (by unfold r64; omega), if_pos (by unfold r64; omega)]
    by_cases c1 : zcmp (B 4 (B 6 p 0 u) 9 (B 2 l 12 u)) v = 0
    · rw [if_pos c1, if_pos k7]
      have zm : 0 ≤ zmax l6 (B 4 (B 6 p 0 u) 365 (B 2 l 12 u)) ∧ zmax l6 (B 4 (B 6 p 0 u) 365 (B 2 l 12 u)) ≤ 2 := by unfold zmax; split <;> omega
      have o106 : ∀ l5', (l5' = 0 ∨ l5' = 6) → ∃ B', f_Layout_addColumn_106 (f_Layout_addColumn_34 K n) K (B 2 l 12 u) (B 6 p 0 u) u l6 v l p b l5' F B = some (1, F, B') ∧ LBl l B' ∧ lyB l B B' ∧ (∀ x, B' 2 l 5 x = B 2 l 5 x ∧ B' 2 l 6 x = B 2 l 6 x) ∧ B' 2 l 2 (F 2 l 4) ≤ 40 ∧ ∀ x, ¬ x = F 2 l 4 → B' 2 l 2 x = B 2 l 2 x := fun l5' q5 => by
        unfold f_Layout_addColumn_106
        rw [if_pos hq, if_pos (by first | decide | omega), if_pos (by unfold r32; omega), if_pos (by unfold r32; omega), if_pos hl, if_pos (by first | decide | omega)]
        have hB1 := LB_w (i := u) (x := B 2 l 12 u + 1) (k := 12) hB (by first | decide | omega) (by first | decide | omega) (by first | decide | omega) (by first | decide | omega) (by first | decide | omega) (by first | decide | omega) (by first | decide | omega) (by first | decide | omega) (by first | decide | omega)
        obtain ⟨B', g1, g2, g3, g4, g5, g6⟩ := ih n (u + 1) _ l5' (zup4 B 2 l 12 u (B 2 l 12 u + 1)) (by first | decide | omega) (by first | decide | omega) (by first | decide | omega) zm q5 (PQ_f h lyF_r lyB_w) hB1
        exact ⟨B', g1, g2, lyB_t lyB_w g3, fun x => ⟨by rw [(g4 x).1, up_o (by decide)], by rw [(g4 x).2, up_o (by decide)]⟩, g5, fun x hx => by rw [g6 x hx, up_o (by decide)]⟩
      by_cases c2 : B 4 (B 6 p 0 u) 367 (B 2 l 12 u) = 0
      · rw [if_pos c2]; exact o106 l5 h5
      · rw [if_neg c2]; exact o106 6 (Or.inr rfl)
    · rw [if_neg c1]; exact same l6 l5 h6 h5
theorem C_addC {F : zF} {B : zB} {b : Int} (hK : 60000 ≤ K.1) (h : PQl K V p F B) (hl : 0 ≤ l ∧ l < K.2 2) (hB : LBl l B) (hF : 0 ≤ F 2 l 4 ∧ F 2 l 4 ≤ 3200) (rb : r32 b) : ∃ r B', f_Layout_addColumn K l p b F B = some (r, F, B') ∧ LBl l B' ∧ lyB l B B' ∧ (∀ x, B' 2 l 5 x = B 2 l 5 x ∧ B' 2 l 6 x = B 2 l 6 x) ∧ ((r = 0 ∧ B' = B) ∨ (r = 1 ∧ F 2 l 4 < 3200 ∧ B' 2 l 2 (F 2 l 4) ≤ 40 ∧ ∀ x, ¬ x = F 2 l 4 → B' 2 l 2 x = B 2 l 2 x)) := by
  have hV := h.2.1
  obtain ⟨r, e, r0, r1⟩ := C_np h hl hB rb V.toNat K.1 0 (-1) (by first | decide | omega) (by decide) (by first | decide | omega) (by first | decide | omega)
  have e' : f_Layout_nextPlace K l p b F B = some (r, F, B) := e
  unfold f_Layout_addColumn f_Layout_addColumn_23
  rw [if_pos hl, e', zb_s, if_pos (by unfold r64; omega)]
  by_cases c : zcmp r 0 < 0
  · rw [if_pos c]; exact ⟨0, B, rfl, hB, lyB_r, fun x => ⟨rfl, rfl⟩, Or.inl ⟨rfl, rfl⟩⟩
  rw [if_neg c, if_pos (by unfold r32; omega)]
  by_cases c1 : F 2 l 4 < 3200
  · rw [if_pos c1]
    obtain ⟨B', g1, g2, g3, g4, g5, g6⟩ := C_ac34 (V := V) (p := p) (F := F) hl ⟨hF.1, c1⟩ rb ⟨r0, r1⟩ V.toNat K.1 0 0 0 B (by first | decide | omega) (by decide) (by first | decide | omega) (by first | decide | omega) (Or.inl rfl) h hB
    exact ⟨1, B', g1, g2, g3, g4, Or.inr ⟨rfl, c1, g5, g6⟩⟩
  · rw [if_neg c1]; exact ⟨0, B, rfl, hB, lyB_r, fun x => ⟨rfl, rfl⟩, Or.inl ⟨rfl, rfl⟩⟩
theorem C_wd57 {F : zF} {j b : Int} {rec : Int → Int → Int → zF → zB → zO} (hl : 0 ≤ l ∧ l < K.2 2) (hj : 0 ≤ j ∧ j < 3200) : ∀ (d N : Nat) (i v : Int) (B : zB), i + d = 40 → 0 ≤ i → d < N → r64 v → LBl l B → B 2 l 2 j ≤ 40 + 4 * i → ∃ B', f_Layout_widen_57 rec K N i v j l b F B = f_Layout_widen_98 rec K j l b F B' ∧ LBl l B' ∧ lyB l B B' ∧ (∀ k x, ¬ k = 2 → B' 2 l k x = B 2 l k x) ∧ ∀ x, ¬ x = j → B' 2 l 2 x = B 2 l 2 x := by
  intro d
  induction d with
  | zero =>
    intro N i v B hi i0 hN rv hB h2
    obtain ⟨n, rfl⟩ : ∃ n, N = n + 1 := ⟨N - 1, (by first | decide | omega)⟩
    rw [f_Layout_widen_57, if_pos (by unfold r32; omega), if_pos (by first | decide | omega)]
    exact ⟨B, rfl, hB, lyB_r, fun _ _ _ => rfl, fun _ _ => rfl⟩
  | succ d ih =>
    intro N i v B hi i0 hN rv hB h2
    obtain ⟨n, rfl⟩ : ∃ n, N = n + 1 := ⟨N - 1, (by first | decide | omega)⟩
    rw [f_Layout_widen_57, if_pos (by unfold r32; omega), if_neg (by first | decide | omega), if_pos rv]
    by_cases c : zcmp v 2 < 0
    · rw [if_pos c]; exact ⟨B, rfl, hB, lyB_r, fun _ _ _ => rfl, fun _ _ => rfl⟩
    rw [if_neg c, if_pos hl, if_pos hj]
    have b2 := (hB j).2.1
    obtain ⟨B', g1, g2, g3, g4, g5⟩ := ih n (i + 1) (zldv v 2) (zup4 B 2 l 2 j (B 2 l 2 j + 4)) (by first | decide | omega) (by first | decide | omega) (by first | decide | omega) (toL_R _) (LB_w hB (by first | decide | omega) (by first | decide | omega) (by first | decide | omega) (by first | decide | omega) (by first | decide | omega) (by first | decide | omega) (by first | decide | omega) (by first | decide | omega) (by first | decide | omega)) (by rw [up_s]; omega)
    exact ⟨B', g1, g2, lyB_t lyB_w g3, fun k x hk => by rw [g4 k x hk, up_o hk], fun x hx => by rw [g5 x hx, up_j hx]⟩
theorem C_wd3 {F : zF} {b : Int} (hK : 60000 ≤ K.1) (hl : 0 ≤ l ∧ l < K.2 2) (hF : 0 ≤ F 2 l 4 ∧ F 2 l 4 ≤ 3200) : ∀ (d N : Nat) (j : Int) (B : zB), F 2 l 4 ≤ j + d → 0 ≤ j → j ≤ 3200 → d < N → LBl l B → (∀ x, j ≤ x → x < F 2 l 4 → B 2 l 2 x ≤ 40) → ∃ B', f_Layout_widen_3 K N j l b F B = some (0, F, B') ∧ LBl l B' ∧ lyB l B B' ∧ ∀ k x, ¬ k = 2 → B' 2 l k x = B 2 l k x := by
  intro d
  induction d with
  | zero =>
    intro N j B hj j0 j1 hN hB h2
    obtain ⟨n, rfl⟩ : ∃ n, N = n + 1 := ⟨N - 1, (by first | decide | omega)⟩
    rw [f_Layout_widen_3, if_pos hl, if_pos (by unfold r32; omega), if_pos (by unfold r32; omega), if_pos (by first | decide | omega)]
    exact ⟨B, rfl, hB, lyB_r, fun _ _ _ => rfl⟩
  | succ d ih =>
    intro N j B hj j0 j1 hN hB h2
    obtain ⟨n, rfl⟩ : ∃ n, N = n + 1 := ⟨N - 1, (by first | decide | omega)⟩
    rw [f_Layout_widen_3, if_pos hl, if_pos (by unfold r32; omega), if_pos (by unfold r32; omega)]
    by_cases c : F 2 l 4 ≤ j
    · rw [if_pos c]; exact ⟨B, rfl, hB, lyB_r, fun _ _ _ => rfl⟩
    have o : ∀ s, ∃ B', f_Layout_widen_36 (f_Layout_widen_3 K n) K j l b s F B = some (0, F, B') ∧ LBl l B' ∧ lyB l B B' ∧ ∀ k x, ¬ k = 2 → B' 2 l k x = B 2 l k x := fun s => by
      obtain ⟨B1, g1, g2, g3, g4, g5⟩ := C_wd57 (F := F) (j := j) (b := b) (rec := f_Layout_widen_3 K n) hl (by first | decide | omega) 40 K.1 0 (zldv (s - B 2 l 1 j) 6350400) B (by first | decide | omega) (by decide) (by first | decide | omega) (toL_R _) hB (by have := h2 j (Int.le_refl _) (by first | decide | omega); omega)
      obtain ⟨B2, k1, k2, k3, k4⟩ := ih n (j + 1) B1 (by first | decide | omega) (by first | decide | omega) (by first | decide | omega) (by first | decide | omega) g2 (fun x x0 x1 => by rw [g5 x (by first | decide | omega)]; exact h2 x (by first | decide | omega) x1)
      unfold f_Layout_widen_36
      rw [if_pos hl, if_pos (by first | decide | omega), g1, f_Layout_widen_98, k1]
      exact ⟨B2, rfl, k2, lyB_t g3 k3, fun k x hk => by rw [k4 k x hk, g4 k x hk]⟩
    rw [if_neg c, if_pos (by unfold r32; omega)]
    by_cases c1 : F 2 l 4 ≤ j + 1
    · rw [if_pos c1]; exact o b
    · rw [if_neg c1, if_pos (by first | decide | omega)]; exact o _
theorem C_sc108 {F : zF} {a nb : Int} {rec : Int → Int → Int → Int → zF → zB → zO} (hl : 0 ≤ l ∧ l < K.2 2) (hF : 0 ≤ F 2 l 4 ∧ F 2 l 4 ≤ 3200) (ha : 0 ≤ a ∧ a < 100) : ∀ (d N : Nat) (j : Int) (B : zB), F 2 l 4 ≤ j + d → 0 ≤ j → j ≤ 3200 → d < N → LBl l B → B 2 l 6 a ≤ 6 + 200 * j → ∃ B', f_Layout_setColumns_108 rec K N j a l p nb F B = rec (a + 1) l p nb F B' ∧ LBl l B' ∧ lyB l B B' := by
  intro d
  induction d with
  | zero =>
    intro N j B hj j0 j1 hN hB h6
    obtain ⟨n, rfl⟩ : ∃ n, N = n + 1 := ⟨N - 1, (by first | decide | omega)⟩
    rw [f_Layout_setColumns_108, if_pos hl, if_pos (by unfold r32; omega), if_pos (by unfold r32; omega), if_pos (by first | decide | omega)]
    exact ⟨B, rfl, hB, lyB_r⟩
  | succ d ih =>
    intro N j B hj j0 j1 hN hB h6
    obtain ⟨n, rfl⟩ : ∃ n, N = n + 1 := ⟨N - 1, (by first | decide | omega)⟩
    rw [f_Layout_setColumns_108, if_pos hl, if_pos (by unfold r32; omega), if_pos (by unfold r32; omega)]
    by_cases c : F 2 l 4 ≤ j
    · rw [if_pos c]; exact ⟨B, rfl, hB, lyB_r⟩
    have b2 := (hB j).2.1
    have b6 := (hB a).2.2.2.1
    rw [if_neg c, if_pos ha, if_pos (by first | decide | omega)]
    obtain ⟨B', g1, g2, g3⟩ := ih n (j + 1) (zup4 B 2 l 6 a (B 2 l 6 a + B 2 l 2 j)) (by first | decide | omega) (by first | decide | omega) (by first | decide | omega) (by first | decide | omega) (LB_w hB (by first | decide | omega) (by first | decide | omega) (by first | decide | omega) (by first | decide | omega) (by first | decide | omega) (by first | decide | omega) (by first | decide | omega) (by first | decide | omega) (by first | decide | omega)) (by rw [up_s]; omega)
    exact ⟨B', g1, g2, lyB_t lyB_w g3⟩
end
end
