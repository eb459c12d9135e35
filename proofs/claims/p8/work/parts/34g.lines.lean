section
/-! ===== lines: the class's side, whole ===== -/
section
variable {K : zK} {V p l : Int}
theorem C_sc45 {a nb : Int} {F0 : zF} {B0 : zB} {rec : Int → Int → Int → Int → zF → zB → zO} (hK : 60000 ≤ K.1) (h : PQl K V p F0 B0) (hl : 0 ≤ l ∧ l < K.2 2) (ra : r32 a) : ∀ (d N : Nat) (i s : Int) (F : zF) (B : zB), i + d = 3200 → 0 ≤ i → d < N → lyF l F0 F → lyB l B0 B → LBl l B → (0 ≤ F 2 l 4 ∧ F 2 l 4 ≤ 3200) → F 2 l 0 = F0 2 l 0 → B 2 l 5 a = s → s ≤ F 2 l 4 → (∀ x, s ≤ x → x < F 2 l 4 → B 2 l 2 x ≤ 40) → ∃ F' B', f_Layout_setColumns_45 rec K N i a l p nb F B = f_Layout_setColumns_78 rec K a l p nb F' B' ∧ lyF l F0 F' ∧ lyB l B0 B' ∧ LBl l B' ∧ (0 ≤ F' 2 l 4 ∧ F' 2 l 4 ≤ 3200) ∧ F' 2 l 0 = F0 2 l 0 ∧ B' 2 l 5 a = s ∧ (∀ x, s ≤ x → x < F' 2 l 4 → B' 2 l 2 x ≤ 40) := by
  intro d
  induction d with
  | zero =>
    intro N i s F B hi i0 hN f b hB h4 h0 h5 hs h2
    obtain ⟨n, rfl⟩ : ∃ n, N = n + 1 := ⟨N - 1, (by first | decide | omega)⟩
    rw [f_Layout_setColumns_45, if_pos (by unfold r32; omega), if_pos (by first | decide | omega)]
    exact ⟨F, B, rfl, f, b, hB, h4, h0, h5, h2⟩
  | succ d ih =>
    intro N i s F B hi i0 hN f b hB h4 h0 h5 hs h2
    obtain ⟨n, rfl⟩ : ∃ n, N = n + 1 := ⟨N - 1, (by first | decide | omega)⟩
    obtain ⟨r, B1, e, g2, g3, g4, g5⟩ := C_addC (b := a) hK (PQ_f h f b) hl hB h4 ra
    rw [f_Layout_setColumns_45, if_pos (by unfold r32; omega), if_neg (by first | decide | omega), if_pos hl, e, zb_s, if_pos (by unfold r32; omega)]
    rcases g5 with ⟨r0, eB⟩ | ⟨r1, l4, q1, q2⟩
    · rw [if_pos r0, eB]
      exact ⟨F, B, rfl, f, b, hB, h4, h0, h5, h2⟩
    · rw [if_neg (by first | decide | omega)]
      refine ih n (i + 1) s _ B1 (by first | decide | omega) (by first | decide | omega) (by first | decide | omega) (lyF_t f (lyF_w (by first | decide | omega))) (lyB_t b g3) g2 (by rw [zup3_v, if_pos ⟨rfl, rfl, rfl⟩]; omega) (by rw [zup3_v, if_neg (by first | decide | omega)]; exact h0) (by rw [(g4 a).1]; exact h5) (by rw [zup3_v, if_pos ⟨rfl, rfl, rfl⟩]; omega) (fun x x0 x1 => ?_)
      rw [zup3_v, if_pos ⟨rfl, rfl, rfl⟩] at x1
      by_cases ex : x = F 2 l 4
      · rw [ex]; exact q1
      · rw [q2 x ex]; exact h2 x x0 (by first | decide | omega)
theorem C_sc27 {nb : Int} {F0 : zF} {B0 : zB} (hK : 60000 ≤ K.1) (h : PQl K V p F0 B0) (hl : 0 ≤ l ∧ l < K.2 2) (hn : 0 ≤ nb ∧ nb ≤ 100) : ∀ (d N : Nat) (a : Int) (F : zF) (B : zB), a + d = nb → 0 ≤ a → d < N → lyF l F0 F → lyB l B0 B → LBl l B → (0 ≤ F 2 l 4 ∧ F 2 l 4 ≤ 3200) → F 2 l 0 = F0 2 l 0 → ∃ F' B', f_Layout_setColumns_27 K N a l p nb F B = some (0, F', B') ∧ lyF l F0 F' ∧ lyB l B0 B' ∧ LBl l B' ∧ (0 ≤ F' 2 l 4 ∧ F' 2 l 4 ≤ 3200) ∧ F' 2 l 0 = F0 2 l 0 := by
  intro d
  induction d with
  | zero =>
    intro N a F B ha a0 hN f b hB h4 h0
    obtain ⟨n, rfl⟩ : ∃ n, N = n + 1 := ⟨N - 1, (by first | decide | omega)⟩
    rw [f_Layout_setColumns_27, if_pos (by unfold r32; omega), if_pos (by unfold r32; omega), if_pos (by first | decide | omega), if_pos hl, if_pos (by first | decide | omega)]
    exact ⟨F, _, rfl, f, lyB_t b lyB_w, LB_w hB (by first | decide | omega) (by first | decide | omega) (by first | decide | omega) (by first | decide | omega) (by first | decide | omega) (by first | decide | omega) (by first | decide | omega) (by first | decide | omega) (by first | decide | omega), h4, h0⟩
  | succ d ih =>
    intro N a F B ha a0 hN f b hB h4 h0
    obtain ⟨n, rfl⟩ : ∃ n, N = n + 1 := ⟨N - 1, (by first | decide | omega)⟩
    have hB1 : LBl l (zup4 B 2 l 5 a (F 2 l 4)) := LB_w hB (by first | decide | omega) (by first | decide | omega) (by first | decide | omega) (by first | decide | omega) (by first | decide | omega) (by first | decide | omega) (by first | decide | omega) (by first | decide | omega) (by first | decide | omega)
    obtain ⟨F1, B1, e, g1, g2, g3, g4, g5, g6, g7⟩ := C_sc45 (a := a) (nb := nb) (rec := f_Layout_setColumns_27 K n) hK h hl (by unfold r32; omega) 3200 K.1 0 (F 2 l 4) F (zup4 B 2 l 5 a (F 2 l 4)) (by first | decide | omega) (by decide) (by first | decide | omega) f (lyB_t b lyB_w) hB1 h4 h0 up_s (Int.le_refl _) (fun x x0 x1 => (by first | decide | omega))
    have hq := PQ_f h g1 g2
    have hbl := C_bar (K := K) (p := p) (F := F1) (B := B1) hq.1 rfl rfl hq.2.2.2.1 hq.2.2.2.2.1
    obtain ⟨B2, w1, w2, w3, w4⟩ := C_wd3 (F := F1) (b := barV (F1 6 p 4) (F1 6 p 5)) hK hl g4 3200 K.1 (F 2 l 4) B1 (by first | decide | omega) h4.1 h4.2 (by first | decide | omega) g3 g7
    have w1' : f_Layout_widen K l (F 2 l 4) (barV (F1 6 p 4) (F1 6 p 5)) F1 B1 = some (0, F1, B2) := w1
    have hB3 : LBl l (zup4 B2 2 l 6 a 6) := LB_w w2 (by first | decide | omega) (by first | decide | omega) (by first | decide | omega) (by first | decide | omega) (by first | decide | omega) (by first | decide | omega) (by first | decide | omega) (by first | decide | omega) (by first | decide | omega)
    have e5 : (zup4 B2 2 l 6 a 6) 2 l 5 a = F 2 l 4 := by rw [up_o (by decide), w4 5 a (by decide)]; exact g6
    obtain ⟨B4, x1, x2, x3⟩ := C_sc108 (F := F1) (p := p) (a := a) (nb := nb) (rec := f_Layout_setColumns_27 K n) hl g4 (by first | decide | omega) 3200 K.1 (F 2 l 4) (zup4 B2 2 l 6 a 6) (by first | decide | omega) h4.1 h4.2 (by first | decide | omega) hB3 (by rw [up_s]; omega)
    rw [f_Layout_setColumns_27, if_pos (by unfold r32; omega), if_pos (by unfold r32; omega), if_neg (by first | decide | omega), if_pos hl, if_pos (by first | decide | omega), e]
    unfold f_Layout_setColumns_78
    rw [if_pos hl, if_pos (by first | decide | omega), if_pos hq.1, hbl, zb_s, g6, w1', zb_s, if_pos (by first | decide | omega), e5, x1]
    exact ih n (a + 1) F1 B4 (by first | decide | omega) (by first | decide | omega) (by first | decide | omega) g1 (lyB_t g2 (lyB_t w3 (lyB_t lyB_w x3))) x2 g4 g5
theorem C_sc7 {nb : Int} {F : zF} (hl : 0 ≤ l ∧ l < K.2 2) : ∀ (d N : Nat) (i : Int) (B : zB), i + d = 4 → 0 ≤ i → d < N → LBl l B → ∃ B', f_Layout_setColumns_7 K N i l p nb F B = f_Layout_setColumns_27 K K.1 0 l p nb F B' ∧ lyB l B B' ∧ LBl l B' := by
  intro d
  induction d with
  | zero =>
    intro N i B hi i0 hN hB
    obtain ⟨n, rfl⟩ : ∃ n, N = n + 1 := ⟨N - 1, (by first | decide | omega)⟩
    rw [f_Layout_setColumns_7, if_pos (by unfold r32; omega), if_pos (by first | decide | omega)]
    exact ⟨B, rfl, lyB_r, hB⟩
  | succ d ih =>
    intro N i B hi i0 hN hB
    obtain ⟨n, rfl⟩ : ∃ n, N = n + 1 := ⟨N - 1, (by first | decide | omega)⟩
    rw [f_Layout_setColumns_7, if_pos (by unfold r32; omega), if_neg (by first | decide | omega), if_pos hl, if_pos (by first | decide | omega)]
    obtain ⟨B', g1, g2, g3⟩ := ih n (i + 1) (zup4 B 2 l 12 i 0) (by first | decide | omega) (by first | decide | omega) (by first | decide | omega) (LB_w hB (by first | decide | omega) (by first | decide | omega) (by first | decide | omega) (by first | decide | omega) (by first | decide | omega) (by first | decide | omega) (by first | decide | omega) (by first | decide | omega) (by first | decide | omega))
    exact ⟨B', g1, lyB_t lyB_w g2, g3⟩
theorem C_setC {nb : Int} {F : zF} {B : zB} (hK : 60000 ≤ K.1) (h : PQl K V p F B) (hl : 0 ≤ l ∧ l < K.2 2) (hn : 0 ≤ nb ∧ nb ≤ 100) (hB : LBl l B) : ∃ F' B', f_Layout_setColumns K l p nb F B = some (0, F', B') ∧ lyF l F F' ∧ lyB l B B' ∧ LBl l B' ∧ (0 ≤ F' 2 l 4 ∧ F' 2 l 4 ≤ 3200) ∧ F' 2 l 0 = F 2 l 0 := by
  obtain ⟨B1, e, g1, g2⟩ := C_sc7 (p := p) (nb := nb) (F := zup3 F 2 l 4 0) hl 4 K.1 0 B (by first | decide | omega) (by decide) (by first | decide | omega) hB
  unfold f_Layout_setColumns
  rw [if_pos hl, e]
  obtain ⟨F2, B2, k1, k2, k3, k4, k5, k6⟩ := C_sc27 (F0 := zup3 F 2 l 4 0) (B0 := B1) hK (PQ_f h (lyF_w (by first | decide | omega)) g1) hl hn nb.toNat K.1 0 (zup3 F 2 l 4 0) B1 (by first | decide | omega) (by decide) (by first | decide | omega) lyF_r lyB_r g2 (by rw [zup3_v, if_pos ⟨rfl, rfl, rfl⟩]; omega) rfl
  exact ⟨F2, B2, k1, lyF_t (lyF_w (by first | decide | omega)) k2, lyB_t g1 k3, k4, k5, by rw [k6, zup3_v, if_neg (by first | decide | omega)]⟩
theorem C_price {F : zF} {B : zB} {a b t : Int} (ha : 0 ≤ a ∧ a ≤ 2000) (hb : 0 ≤ b ∧ b ≤ 100000000) (ht : r32 t) : ∃ r, f_Layout_price K a b t F B = some (r, F, B) ∧ 0 ≤ r ∧ r ≤ 40000000000000000 := by
  unfold f_Layout_price f_Layout_price_34
  rw [if_pos (by unfold r64; omega), if_pos (by unfold r64; omega)]
  by_cases c : zcmp b a ≤ 0
  · have hba : b ≤ a := by unfold zcmp at c; split at c <;> omega
    have m1 : 0 ≤ (a - b) * (a - b) := Int.mul_nonneg (by first | decide | omega) (by first | decide | omega)
    have m2 : (a - b) * (a - b) ≤ 2000 * 2000 := Int.mul_le_mul (by first | decide | omega) (by first | decide | omega) (by first | decide | omega) (by first | decide | omega)
    rw [if_pos c, if_pos ht]
    by_cases c' : t = 0
    · rw [if_pos c']; exact ⟨_, rfl, m1, (by first | decide | omega)⟩
    · rw [if_neg c']; exact ⟨_, rfl, (by first | decide | omega), (by first | decide | omega)⟩
  · have hba : a < b := by unfold zcmp at c; split at c <;> omega
    have m1 : 0 ≤ 4 * (b - a) * (b - a) := Int.mul_nonneg (by first | decide | omega) (by first | decide | omega)
    have m2 : 4 * (b - a) * (b - a) ≤ 400000000 * 100000000 := Int.mul_le_mul (by first | decide | omega) (by first | decide | omega) (by first | decide | omega) (by first | decide | omega)
    rw [if_neg c]; exact ⟨_, rfl, m1, (by first | decide | omega)⟩
theorem C_ch41 {F : zF} {nb a wd : Int} {rec : Int → Int → Int → Int → Int → zF → zB → zO} (hl : 0 ≤ l ∧ l < K.2 2) (hn : 0 ≤ nb ∧ nb ≤ 100) (ha : 0 ≤ a ∧ a ≤ 100) (hw : 0 ≤ wd ∧ wd ≤ 2000) : ∀ (d N : Nat) (j v : Int) (B : zB), nb + 1 ≤ j + d → 1 ≤ j → j ≤ 101 → d < N → (0 ≤ v ∧ v ≤ 100 + 640006 * j) → LBl l B → ∃ B', f_Layout_choose_41 rec K N j v a l p nb wd F B = f_Layout_choose_145 rec K a l p nb wd F B' ∧ lyB l B B' ∧ LBl l B' := by
  intro d
  induction d with
  | zero =>
    intro N j v B hj j0 j1 hN hv hB
    obtain ⟨n, rfl⟩ : ∃ n, N = n + 1 := ⟨N - 1, (by first | decide | omega)⟩
    rw [f_Layout_choose_41, if_pos (by unfold r32; omega), if_pos (by unfold r32; omega), if_pos (by first | decide | omega)]
    exact ⟨B, rfl, lyB_r, hB⟩
  | succ d ih =>
    intro N j v B hj j0 j1 hN hv hB
    obtain ⟨n, rfl⟩ : ∃ n, N = n + 1 := ⟨N - 1, (by first | decide | omega)⟩
    rw [f_Layout_choose_41, if_pos (by unfold r32; omega), if_pos (by unfold r32; omega)]
    by_cases c : nb < j
    · rw [if_pos c]; exact ⟨B, rfl, lyB_r, hB⟩
    have b6 := (hB (j - 1)).2.2.2.1
    rw [if_neg c, if_pos hl, if_pos (by first | decide | omega)]
    generalize hx : v + B 2 l 6 (j - 1) = x at *
    have nxt : ∀ B1, LBl l B1 → ∃ B', f_Layout_choose_139 rec (f_Layout_choose_41 rec K n) K x j a l p nb wd F B1 = f_Layout_choose_145 rec K a l p nb wd F B' ∧ lyB l B1 B' ∧ LBl l B' := fun B1 hB1 => ih n (j + 1) x B1 (by first | decide | omega) (by first | decide | omega) (by first | decide | omega) (by first | decide | omega) (by first | decide | omega) hB1
    have o95 : ∀ t, r32 t → ∃ B', f_Layout_choose_95 rec (f_Layout_choose_41 rec K n) K x j a l p nb wd wd x t F B = f_Layout_choose_145 rec K a l p nb wd F B' ∧ lyB l B B' ∧ LBl l B' := fun t ht => by
      obtain ⟨r, e, r0, r1⟩ := C_price (K := K) (F := F) (B := B) hw (b := x) (by first | decide | omega) ht
      have p1 := (hB j).2.2.2.2.2.2.1
      have p2 := (hB a).2.2.2.2.2.2.1
      unfold f_Layout_choose_95
      rw [e, zb_s, if_pos hl, if_pos (by first | decide | omega), if_pos (by first | decide | omega), if_pos (by unfold r64; omega), if_pos (by unfold r64; omega)]
      by_cases c1 : 0 < zcmp (r + B 2 l 10 j) (B 2 l 10 a)
      · rw [if_pos c1]; exact nxt B hB
      · have le : r + B 2 l 10 j ≤ B 2 l 10 a := by unfold zcmp at c1; split at c1 <;> omega
        rw [if_neg c1]
        obtain ⟨B', g1, g2, g3⟩ := nxt _ (LB_w (i := a) (x := j) (k := 11) (LB_w (i := a) (x := r + B 2 l 10 j) (k := 10) hB (by first | decide | omega) (by first | decide | omega) (by first | decide | omega) (by first | decide | omega) (by first | decide | omega) (by first | decide | omega) (by first | decide | omega) (by first | decide | omega) (by first | decide | omega)) (by first | decide | omega) (by first | decide | omega) (by first | decide | omega) (by first | decide | omega) (by first | decide | omega) (by first | decide | omega) (by first | decide | omega) (by first | decide | omega) (by first | decide | omega))
        exact ⟨B', g1, lyB_t (lyB_t lyB_w lyB_w) g2, g3⟩
    have o79 : ∃ B', f_Layout_choose_79 rec (f_Layout_choose_41 rec K n) K x j a l p nb wd F B = f_Layout_choose_145 rec K a l p nb wd F B' ∧ lyB l B B' ∧ LBl l B' := by
      unfold f_Layout_choose_79
      rw [if_pos (by unfold r32; omega), if_pos (by unfold r32; omega), if_pos (by unfold r32; omega), if_pos (by unfold r32; omega)]
      by_cases c1 : j = nb
      · rw [if_pos c1]; exact o95 1 (by decide)
      · rw [if_neg c1]; exact o95 0 (by decide)
    rw [if_pos (by unfold r32; omega), if_pos (by unfold r32; omega)]
    by_cases c1 : x ≤ wd
    · rw [if_pos c1]; exact o79
    · rw [if_neg c1, if_pos (by unfold r32; omega)]
      by_cases c2 : j ≤ a + 1
      · rw [if_pos c2]; exact o79
      · rw [if_neg c2]; exact ⟨B, rfl, lyB_r, hB⟩
theorem C_ch12 {F : zF} {nb wd : Int} (hK : 60000 ≤ K.1) (hl : 0 ≤ l ∧ l < K.2 2) (hn : 0 ≤ nb ∧ nb ≤ 100) (hw : 0 ≤ wd ∧ wd ≤ 2000) : ∀ (d N : Nat) (a : Int) (B : zB), a < d → -1 ≤ a → a ≤ 100 → d < N → PQl K V p F B → LBl l B → ∃ B', f_Layout_choose_12 K N a l p nb wd F B = some (0, F, B') ∧ lyB l B B' ∧ LBl l B' := by
  intro d
  induction d with
  | zero =>
    intro N a B ha a0 a1 hN h hB
    obtain ⟨n, rfl⟩ : ∃ n, N = n + 1 := ⟨N - 1, (by first | decide | omega)⟩
    rw [f_Layout_choose_12, if_pos (by unfold r32; omega), if_pos (by first | decide | omega)]
    exact ⟨B, rfl, lyB_r, hB⟩
  | succ d ih =>
    intro N a B ha a0 a1 hN h hB
    obtain ⟨n, rfl⟩ : ∃ n, N = n + 1 := ⟨N - 1, (by first | decide | omega)⟩
    rw [f_Layout_choose_12, if_pos (by unfold r32; omega)]
    by_cases c : a < 0
    · rw [if_pos c]; exact ⟨B, rfl, lyB_r, hB⟩
    obtain ⟨r, e, r0, r1⟩ := C_lead h (a := a) (by unfold r32; omega)
    rw [if_neg c, e, zb_s, if_pos hl, if_pos (by first | decide | omega)]
    have hB1 : LBl l (zup4 B 2 l 10 a 1152921504606846976) := LB_w hB (by first | decide | omega) (by first | decide | omega) (by first | decide | omega) (by first | decide | omega) (by first | decide | omega) (by first | decide | omega) (by first | decide | omega) (by first | decide | omega) (by first | decide | omega)
    obtain ⟨B', g1, g2, g3⟩ := C_ch41 (F := F) (p := p) (nb := nb) (a := a) (wd := wd) (rec := f_Layout_choose_12 K n) hl hn (by first | decide | omega) hw 101 K.1 (a + 1) r _ (by first | decide | omega) (by first | decide | omega) (by first | decide | omega) (by first | decide | omega) (by first | decide | omega) hB1
    rw [g1, f_Layout_choose_145]
    obtain ⟨B2, k1, k2, k3⟩ := ih n (a - 1) B' (by first | decide | omega) (by first | decide | omega) (by first | decide | omega) (by first | decide | omega) (PQ_f h lyF_r (lyB_t lyB_w g2)) g3
    exact ⟨B2, k1, lyB_t lyB_w (lyB_t g2 k2), k3⟩
theorem C_wO {F : zF} {B : zB} {t : Int} (hl : 0 ≤ l ∧ l < K.2 2) (hB : LBl l B) (ht : 0 ≤ t ∧ t ≤ 100) : ∀ (d N : Nat) (j v : Int), t ≤ j + d → 0 ≤ j → j ≤ 100 → d < N → (0 ≤ v ∧ v ≤ 100 + 640006 * j) → ∃ r, f_Layout_widthOf_10 K N j v l t F B = some (r, F, B) ∧ 0 ≤ r ∧ r ≤ 100000000 := by
  intro d
  induction d with
  | zero =>
    intro N j v hj j0 j1 hN hv
    obtain ⟨n, rfl⟩ : ∃ n, N = n + 1 := ⟨N - 1, (by first | decide | omega)⟩
    rw [f_Layout_widthOf_10, if_pos (by unfold r32; omega), if_pos (by unfold r32; omega), if_pos (by first | decide | omega)]
    exact ⟨v, rfl, (by first | decide | omega), (by first | decide | omega)⟩
  | succ d ih =>
    intro N j v hj j0 j1 hN hv
    obtain ⟨n, rfl⟩ : ∃ n, N = n + 1 := ⟨N - 1, (by first | decide | omega)⟩
    rw [f_Layout_widthOf_10, if_pos (by unfold r32; omega), if_pos (by unfold r32; omega)]
    by_cases c : t ≤ j
    · rw [if_pos c]; exact ⟨v, rfl, (by first | decide | omega), (by first | decide | omega)⟩
    · have b6 := (hB j).2.2.2.1
      rw [if_neg c, if_pos hl, if_pos (by first | decide | omega)]
      exact ih n (j + 1) _ (by first | decide | omega) (by first | decide | omega) (by first | decide | omega) (by first | decide | omega) (by first | decide | omega)
theorem C_x108 {F : zF} {a l7 l6 l5 ln : Int} {rec : Int → Int → Int → Int → Int → Int → Int → zF → zB → zO} (hl : 0 ≤ l ∧ l < K.2 2) (ha : 0 ≤ a ∧ a < 100) (h6 : 0 < l6 ∧ l6 ≤ 4000) : ∀ (d N : Nat) (j v : Int) (B : zB), 3200 ≤ j + d → 0 ≤ j → j ≤ 3200 → d < N → LBl l B → ∃ v' B', f_Layout_setXs_108 rec K N j v a l7 l6 l5 l ln F B = rec (a + 1) l7 l6 l5 v' l ln F B' ∧ lyB l B B' ∧ LBl l B' := by
  intro d
  induction d with
  | zero =>
    intro N j v B hj j0 j1 hN hB
    obtain ⟨n, rfl⟩ : ∃ n, N = n + 1 := ⟨N - 1, (by first | decide | omega)⟩
    have b5 := (hB (a + 1)).2.2.1
    rw [f_Layout_setXs_108, if_pos hl, if_pos (by first | decide | omega), if_pos (by unfold r32; omega), if_pos (by unfold r32; omega), if_pos (by first | decide | omega)]
    exact ⟨v, B, rfl, lyB_r, hB⟩
  | succ d ih =>
    intro N j v B hj j0 j1 hN hB
    obtain ⟨n, rfl⟩ : ∃ n, N = n + 1 := ⟨N - 1, (by first | decide | omega)⟩
    have b5 := (hB (a + 1)).2.2.1
    rw [f_Layout_setXs_108, if_pos hl, if_pos (by first | decide | omega), if_pos (by unfold r32; omega), if_pos (by unfold r32; omega)]
    by_cases c : B 2 l 5 (a + 1) ≤ j
    · rw [if_pos c]; exact ⟨v, B, rfl, lyB_r, hB⟩
    · rw [if_neg c, if_pos (iI_n0 h6.1 (by unfold r32; omega)), if_pos (by first | decide | omega)]
      obtain ⟨v', B', g1, g2, g3⟩ := ih n (j + 1) _ _ (by first | decide | omega) (by first | decide | omega) (by first | decide | omega) (by first | decide | omega) (LB_w (k := 3) hB (by first | decide | omega) (by first | decide | omega) (by first | decide | omega) (by first | decide | omega) (by first | decide | omega) (by first | decide | omega) (by first | decide | omega) (by first | decide | omega) (by first | decide | omega))
      exact ⟨v', B', g1, lyB_t lyB_w g2, g3⟩
theorem C_x83 {F : zF} {l7 l6 l5 ln : Int} (hK : 60000 ≤ K.1) (hl : 0 ≤ l ∧ l < K.2 2) (hn : 0 ≤ ln ∧ ln < 100) (h6 : 0 < l6 ∧ l6 ≤ 4000) : ∀ (d N : Nat) (a v : Int) (B : zB), 100 ≤ a + d → 0 ≤ a → a ≤ 100 → d < N → LBl l B → ∃ B', f_Layout_setXs_83 K N a l7 l6 l5 v l ln F B = some (0, F, B') ∧ lyB l B B' ∧ LBl l B' := by
  intro d
  induction d with
  | zero =>
    intro N a v B ha a0 a1 hN hB
    obtain ⟨n, rfl⟩ : ∃ n, N = n + 1 := ⟨N - 1, (by first | decide | omega)⟩
    have b7 := (hB (ln + 1)).2.2.2.2.1
    rw [f_Layout_setXs_83, if_pos hl, if_pos (by first | decide | omega), if_pos (by unfold r32; omega), if_pos (by unfold r32; omega), if_pos (by first | decide | omega)]
    exact ⟨B, rfl, lyB_r, hB⟩
  | succ d ih =>
    intro N a v B ha a0 a1 hN hB
    obtain ⟨n, rfl⟩ : ∃ n, N = n + 1 := ⟨N - 1, (by first | decide | omega)⟩
    have b7 := (hB (ln + 1)).2.2.2.2.1
    rw [f_Layout_setXs_83, if_pos hl, if_pos (by first | decide | omega), if_pos (by unfold r32; omega), if_pos (by unfold r32; omega)]
    by_cases c : B 2 l 7 (ln + 1) ≤ a
    · rw [if_pos c]; exact ⟨B, rfl, lyB_r, hB⟩
    · have b5 := (hB a).2.2.1
      obtain ⟨v', B1, g1, g2, g3⟩ := C_x108 (F := F) (l7 := l7) (l6 := l6) (l5 := l5) (ln := ln) (rec := f_Layout_setXs_83 K n) hl (a := a) (by first | decide | omega) h6 3200 K.1 (B 2 l 5 a) (v + 6) B (by first | decide | omega) b5.1 b5.2 (by first | decide | omega) hB
      rw [if_neg c, if_pos (by first | decide | omega), g1]
      obtain ⟨B', k1, k2, k3⟩ := ih n (a + 1) v' B1 (by first | decide | omega) (by first | decide | omega) (by first | decide | omega) (by first | decide | omega) g3
      exact ⟨B', k1, lyB_t g2 k2, k3⟩
theorem C_setX {F : zF} {B : zB} {ln wd : Int} (hK : 60000 ≤ K.1) (h : PQl K V p F B) (hl : 0 ≤ l ∧ l < K.2 2) (hn : 0 ≤ ln ∧ ln < 100) (hw : 0 ≤ wd ∧ wd ≤ 2000) (hF : 0 ≤ F 2 l 0 ∧ F 2 l 0 ≤ 100) (hB : LBl l B) : ∃ B', f_Layout_setXs K l p ln wd F B = some (0, F, B') ∧ lyB l B B' ∧ LBl l B' := by
  have b7 := (hB ln).2.2.2.2.1
  have b7' := (hB (ln + 1)).2.2.2.2.1
  have b5 := (hB (B 2 l 7 ln)).2.2.1
  have b5' := (hB (B 2 l 7 (ln + 1))).2.2.1
  have b8 := (hB ln).2.2.2.2.2.1
  obtain ⟨r, e, r0, r1⟩ := C_lead h (a := B 2 l 7 ln) (by unfold r32; omega)
  have zm : 0 < zmax (B 2 l 5 (B 2 l 7 (ln + 1)) - B 2 l 5 (B 2 l 7 ln)) 1 ∧ zmax (B 2 l 5 (B 2 l 7 (ln + 1)) - B 2 l 5 (B 2 l 7 ln)) 1 ≤ 4000 := by unfold zmax; split <;> omega
  have o73 : ∀ s, ∃ B', f_Layout_setXs_73 K (zmax (B 2 l 5 (B 2 l 7 (ln + 1)) - B 2 l 5 (B 2 l 7 ln)) 1) (B 2 l 5 (B 2 l 7 ln)) r l ln s F B = some (0, F, B') ∧ lyB l B B' ∧ LBl l B' := fun s => by
    unfold f_Layout_setXs_73
    rw [if_pos hl, if_pos (by first | decide | omega)]
    exact C_x83 hK hl hn zm 100 K.1 _ _ B (by first | decide | omega) b7.1 b7.2 (by first | decide | omega) hB
  unfold f_Layout_setXs
  rw [if_pos hl, if_pos (by first | decide | omega), e, zb_s, if_pos (by first | decide | omega), if_pos (by first | decide | omega), if_pos (by first | decide | omega), if_pos (by unfold r32; omega), if_pos (by unfold r32; omega), if_pos (by unfold r32; omega)]
  by_cases c : F 2 l 0 ≤ ln + 1
  · rw [if_pos c]; exact o73 0
  · rw [if_neg c, if_pos (by first | decide | omega), if_pos (by unfold r32; omega)]; exact o73 _
theorem C_b148 {F : zF} {wd : Int} (hK : 60000 ≤ K.1) (hl : 0 ≤ l ∧ l < K.2 2) (hw : 0 ≤ wd ∧ wd ≤ 2000) (hF : 0 ≤ F 2 l 0 ∧ F 2 l 0 ≤ 100) : ∀ (d N : Nat) (i : Int) (B : zB), F 2 l 0 ≤ i + d → 0 ≤ i → i ≤ 100 → d < N → PQl K V p F B → LBl l B → ∃ B', f_Layout_breakLines_148 K N i l p wd F B = some (F 2 l 0, F, B') ∧ lyB l B B' ∧ LBl l B' := by
  intro d
  induction d with
  | zero =>
    intro N i B hi i0 i1 hN h hB
    obtain ⟨n, rfl⟩ : ∃ n, N = n + 1 := ⟨N - 1, (by first | decide | omega)⟩
    rw [f_Layout_breakLines_148, if_pos hl, if_pos (by unfold r32; omega), if_pos (by unfold r32; omega), if_pos (by first | decide | omega)]
    exact ⟨B, rfl, lyB_r, hB⟩
  | succ d ih =>
    intro N i B hi i0 i1 hN h hB
    obtain ⟨n, rfl⟩ : ∃ n, N = n + 1 := ⟨N - 1, (by first | decide | omega)⟩
    rw [f_Layout_breakLines_148, if_pos hl, if_pos (by unfold r32; omega), if_pos (by unfold r32; omega)]
    by_cases c : F 2 l 0 ≤ i
    · rw [if_pos c]; exact ⟨B, rfl, lyB_r, hB⟩
    · obtain ⟨B1, g1, g2, g3⟩ := C_setX (ln := i) (wd := wd) hK h hl (by first | decide | omega) hw hF hB
      rw [if_neg c, g1, zb_s]
      obtain ⟨B', k1, k2, k3⟩ := ih n (i + 1) B1 (by first | decide | omega) (by first | decide | omega) (by first | decide | omega) (by first | decide | omega) (PQ_f h lyF_r g2) g3
      exact ⟨B', k1, lyB_t g2 k2, k3⟩
theorem C_b34 {wd nb : Int} {F0 : zF} {B0 : zB} (hK : 60000 ≤ K.1) (h : PQl K V p F0 B0) (hl : 0 ≤ l ∧ l < K.2 2) (hw : 0 ≤ wd ∧ wd ≤ 2000) (hn : 0 ≤ nb ∧ nb ≤ 100) : ∀ (d N : Nat) (i a : Int) (F : zF) (B : zB), i + d = 100 → 0 ≤ i → d < N → (0 ≤ a ∧ a ≤ 100) → F 2 l 0 = i → (0 ≤ F 2 l 4 ∧ F 2 l 4 ≤ 3200) → lyF l F0 F → lyB l B0 B → LBl l B → ∃ r F' B', f_Layout_breakLines_34 K N i a nb l p wd F B = some (r, F', B') ∧ lyF l F0 F' ∧ lyB l B0 B' ∧ LBl l B' ∧ (0 ≤ F' 2 l 0 ∧ F' 2 l 0 ≤ 100) ∧ (0 ≤ F' 2 l 4 ∧ F' 2 l 4 ≤ 3200) := by
  have o135 : ∀ (F : zF) (B : zB) (i : Int), 0 ≤ i → i ≤ 100 → F 2 l 0 = i → (0 ≤ F 2 l 4 ∧ F 2 l 4 ≤ 3200) → lyF l F0 F → lyB l B0 B → LBl l B → ∃ r F' B', f_Layout_breakLines_135 K nb l p wd F B = some (r, F', B') ∧ lyF l F0 F' ∧ lyB l B0 B' ∧ LBl l B' ∧ (0 ≤ F' 2 l 0 ∧ F' 2 l 0 ≤ 100) ∧ (0 ≤ F' 2 l 4 ∧ F' 2 l 4 ≤ 3200) := fun F B i i0 i1 h0 h4 f b hB => by
    have hB1 : LBl l (zup4 B 2 l 7 (F 2 l 0) nb) := LB_w hB (by first | decide | omega) (by first | decide | omega) (by first | decide | omega) (by first | decide | omega) (by first | decide | omega) (by first | decide | omega) (by first | decide | omega) (by first | decide | omega) (by first | decide | omega)
    obtain ⟨B', g1, g2, g3⟩ := C_b148 (V := V) (p := p) (F := F) (wd := wd) hK hl hw (by first | decide | omega) 100 K.1 0 (zup4 B 2 l 7 (F 2 l 0) nb) (by first | decide | omega) (by decide) (by first | decide | omega) (by first | decide | omega) (PQ_f h f (lyB_t b lyB_w)) hB1
    unfold f_Layout_breakLines_135
    rw [if_pos hl, if_pos (by first | decide | omega), g1]
    exact ⟨_, F, B', rfl, f, lyB_t b (lyB_t lyB_w g2), g3, (by first | decide | omega), h4⟩
  intro d
  induction d with
  | zero =>
    intro N i a F B hi i0 hN ha h0 h4 f b hB
    obtain ⟨n, rfl⟩ : ∃ n, N = n + 1 := ⟨N - 1, (by first | decide | omega)⟩
    rw [f_Layout_breakLines_34, if_pos (by unfold r32; omega), if_pos (by first | decide | omega)]
    exact o135 F B i i0 (by first | decide | omega) h0 h4 f b hB
  | succ d ih =>
    intro N i a F B hi i0 hN ha h0 h4 f b hB
    obtain ⟨n, rfl⟩ : ∃ n, N = n + 1 := ⟨N - 1, (by first | decide | omega)⟩
    rw [f_Layout_breakLines_34, if_pos (by unfold r32; omega), if_neg (by first | decide | omega), if_pos (by unfold r32; omega), if_pos (by unfold r32; omega)]
    by_cases c : nb ≤ a
    · rw [if_pos c]; exact o135 F B i i0 (by first | decide | omega) h0 h4 f b hB
    have hB1 : LBl l (zup4 B 2 l 7 (F 2 l 0) a) := LB_w hB (by first | decide | omega) (by first | decide | omega) (by first | decide | omega) (by first | decide | omega) (by first | decide | omega) (by first | decide | omega) (by first | decide | omega) (by first | decide | omega) (by first | decide | omega)
    have b11 := (hB1 a).2.2.2.2.2.2.2.1
    obtain ⟨r, e, r0, r1⟩ := C_lead (PQ_f h f (lyB_t b (lyB_w (k := 7) (i := F 2 l 0) (x := a)))) (a := a) (by unfold r32; omega)
    obtain ⟨t, e', t0, t1⟩ := C_wO (F := F) hl hB1 b11 100 K.1 a r (by first | decide | omega) ha.1 ha.2 (by first | decide | omega) (by first | decide | omega)
    rw [if_neg c, if_pos hl, if_pos (by first | decide | omega), if_pos (by first | decide | omega)]
    have eW : f_Layout_widthOf K l p a ((zup4 B 2 l 7 (F 2 l 0) a) 2 l 11 a) F (zup4 B 2 l 7 (F 2 l 0) a) = some (t, F, zup4 B 2 l 7 (F 2 l 0) a) := by
      unfold f_Layout_widthOf
      rw [e, zb_s]; exact e'
    rw [eW, zb_s]
    have bB : lyB l B (zup4 B 2 l 7 (F 2 l 0) a) := lyB_w
    generalize zup4 B 2 l 7 (F 2 l 0) a = B1 at hB1 b11 bB ⊢
    have hB2 : LBl l (zup4 B1 2 l 8 (F 2 l 0) t) := LB_w hB1 (by first | decide | omega) (by first | decide | omega) (by first | decide | omega) (by first | decide | omega) (by first | decide | omega) (by first | decide | omega) (by first | decide | omega) (by first | decide | omega) (by first | decide | omega)
    have b11' := (hB2 a).2.2.2.2.2.2.2.1
    rw [if_pos (by first | decide | omega), if_pos (by first | decide | omega), if_pos (by first | decide | omega)]
    have bC : lyB l B1 (zup4 B1 2 l 8 (F 2 l 0) t) := lyB_w
    generalize zup4 B1 2 l 8 (F 2 l 0) t = B2 at hB2 b11' bC ⊢
    generalize hz : B2 2 l 10 a - B2 2 l 10 (B2 2 l 11 a) = z
    have hB3 : LBl l (zup4 B2 2 l 9 (F 2 l 0) z) := LB_w hB2 (by first | decide | omega) (by first | decide | omega) (by first | decide | omega) (by first | decide | omega) (by first | decide | omega) (by first | decide | omega) (by first | decide | omega) (by first | decide | omega) (by first | decide | omega)
    rw [up_o (by decide)]
    exact ih n (i + 1) _ _ _ (by first | decide | omega) (by first | decide | omega) (by first | decide | omega) b11' (by rw [zup3_v, if_pos ⟨rfl, rfl, rfl⟩]; omega) (by rw [zup3_v, if_neg (by first | decide | omega)]; exact h4) (lyF_t f (lyF_w (by first | decide | omega))) (lyB_t b (lyB_t bB (lyB_t bC lyB_w))) hB3
theorem C_brk {F : zF} {B : zB} {wd : Int} (hK : 60000 ≤ K.1) (h : PQl K V p F B) (hl : 0 ≤ l ∧ l < K.2 2) (hw : 0 ≤ wd ∧ wd ≤ 2000) (hB : LBl l B) : ∃ r F' B', f_Layout_breakLines K l p wd F B = some (r, F', B') ∧ lyF l F F' ∧ lyB l B B' ∧ LXu l F' B' := by
  have h7 := h.2.2.2.2.2.1
  have zm : zmin (F 6 p 7) 100 = F 6 p 7 := by unfold zmin; split <;> omega
  obtain ⟨F1, B1, e1, f1, b1, l1, a4, a0⟩ := C_setC (nb := F 6 p 7) hK h hl h7 hB
  have h1 := PQ_f h f1 b1
  have hB1 : LBl l (zup4 B1 2 l 10 (F 6 p 7) 0) := LB_w l1 (by first | decide | omega) (by first | decide | omega) (by first | decide | omega) (by first | decide | omega) (by first | decide | omega) (by first | decide | omega) (by first | decide | omega) (by first | decide | omega) (by first | decide | omega)
  obtain ⟨B2, e2, b2, l2⟩ := C_ch12 (V := V) (p := p) (F := F1) (nb := F 6 p 7) (wd := wd) hK hl h7 hw 101 K.1 (F 6 p 7 - 1) (zup4 B1 2 l 10 (F 6 p 7) 0) (by first | decide | omega) (by first | decide | omega) (by first | decide | omega) (by first | decide | omega) (PQ_f h1 lyF_r lyB_w) hB1
  have e2' : f_Layout_choose K l p (F 6 p 7) wd F1 B1 = some (0, F1, B2) := by
    unfold f_Layout_choose
    rw [if_pos hl, if_pos (by first | decide | omega)]; exact e2
  obtain ⟨r, F3, B3, e3, f3, b3, l3, c0, c4⟩ := C_b34 (V := V) (p := p) (wd := wd) (nb := F 6 p 7) (F0 := zup3 F1 2 l 0 0) (B0 := B2) hK (PQ_f h1 (lyF_w (by first | decide | omega)) (lyB_t lyB_w b2)) hl hw h7 100 K.1 0 0 (zup3 F1 2 l 0 0) B2 (by first | decide | omega) (by decide) (by first | decide | omega) (by first | decide | omega) (by rw [zup3_v, if_pos ⟨rfl, rfl, rfl⟩]) (by rw [zup3_v, if_neg (by first | decide | omega)]; exact a4) lyF_r lyB_r l2
  unfold f_Layout_breakLines
  rw [zm, if_pos h.1, if_pos (by unfold r32; omega), if_pos hl, e1, zb_s, e2', zb_s, e3]
  exact ⟨r, F3, B3, rfl, lyF_t f1 (lyF_t (lyF_w (by first | decide | omega)) f3), lyB_t b1 (lyB_t (lyB_t lyB_w b2) b3), c0, c4, l3⟩
end
end
