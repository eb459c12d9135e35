section
/-! ===== the columns of a read piece, reference ===== -/
def XC (B : zB) : Prop := ∀ i x, (0 ≤ B 13 i 42 x ∧ B 13 i 42 x ≤ 3200) ∧ (0 ≤ B 13 i 45 x ∧ B 13 i 45 x ≤ 100) ∧ (0 ≤ B 13 i 46 x ∧ B 13 i 46 x ≤ 400000)
def CQ (w : Int) (B B' : zB) : Prop := XC B' ∧ ∀ c i k x, ¬ (c = 13 ∧ i = w ∧ 42 ≤ k ∧ k ≤ 46) → B' c i k x = B c i k x
theorem XC_z {w s : Int} {B B' : zB} (h : XC B) (z : CZ w s B B') : XC B' := fun i x => by
  rw [z 13 i 42 x (by first | decide | omega), z 13 i 45 x (by first | decide | omega), z 13 i 46 x (by first | decide | omega)]
  exact h i x
theorem XC_u {i j v : Int} {k : Nat} {B : zB} (h : XC B) (hv : (k = 42 ∧ 0 ≤ v ∧ v ≤ 3200) ∨ (k = 45 ∧ 0 ≤ v ∧ v ≤ 100) ∨ (k = 46 ∧ 0 ≤ v ∧ v ≤ 400000)) : XC (zup4 B 13 i k j v) := fun i' x => by
  have := h i' x
  rw [zup4_v, zup4_v, zup4_v]
  refine ⟨?_, ?_, ?_⟩
  · split
    · omega
    · omega
  · split
    · omega
    · omega
  · split
    · omega
    · omega
theorem CQ_r {w : Int} {B : zB} (h : XC B) : CQ w B B := ⟨h, fun _ _ _ _ _ => rfl⟩
theorem CQ_z {w s : Int} {B0 B B' : zB} (h : CQ w B0 B) (z : CZ w s B B') : CQ w B0 B' := ⟨XC_z h.1 z, fun c i k x n => by rw [z c i k x (by first | decide | omega), h.2 c i k x n]⟩
theorem CQ_u {w j v : Int} {k : Nat} {B0 B : zB} (h : CQ w B0 B) (hv : (k = 42 ∧ 0 ≤ v ∧ v ≤ 3200) ∨ (k = 45 ∧ 0 ≤ v ∧ v ≤ 100) ∨ (k = 46 ∧ 0 ≤ v ∧ v ≤ 400000)) : CQ w B0 (zup4 B 13 w k j v) := ⟨XC_u h.1 hv, fun c i k' x n => by rw [zup4_v, if_neg (by first | decide | omega), h.2 c i k' x n]⟩
theorem XS_f {B B' : zB} (h : XS B) (f : ∀ i k x, 36 ≤ k → k ≤ 41 → B' 13 i k x = B 13 i k x) (g : ∀ x, B' 14 0 58 x = B 14 0 58 x) : XS B' := ⟨fun s => by rw [g]; exact h.1 s, fun i x => by rw [f i 36 x (by decide) (by decide), f i 37 x (by decide) (by decide), f i 38 x (by decide) (by decide), f i 39 x (by decide) (by decide), f i 40 x (by decide) (by decide), f i 41 x (by decide) (by decide)]; exact h.2 i x⟩
theorem RDW_c {V w : Int} {F : zF} {B B' : zB} (h : RDW V w F B) (q : CQ w B B') : RDW V w F B' := RDW_f h (fun _ _ _ => rfl) (fun k x _ h' => q.2 13 w k x (by first | decide | omega))
theorem XS_c {w : Int} {B B' : zB} (h : XS B) (q : CQ w B B') : XS B' := XS_f h (fun i k x h1 h2 => q.2 13 i k x (by first | decide | omega)) (fun x => q.2 14 0 58 x (by first | decide | omega))
/-- notes counted: those of earlier bars, and those of this bar seen so far -/
def qn (V w : Int) (B : zB) (b u i : Int) (y : Nat) : Bool := decide (((y : Int) / 800 < V ∧ (y : Int) % 800 < B 13 w 13 ((y : Int) / 800)) ∧ (B 13 w 31 (y : Int) < b ∨ (B 13 w 31 (y : Int) = b ∧ (y : Int) < 800 * u + i)))
/-- the notes of this bar seen so far have their columns -/
def CBn (V w b s l u i : Int) (P : Int → Int) (B : zB) : Prop := ∀ u' y, 0 ≤ u' → u' < V → 800 * u' ≤ y → y < 800 * u' + B 13 w 13 u' → B 13 w 31 y = b → y < 800 * u + i → ∃ j, s ≤ j ∧ j < l ∧ nu (P j) = B 13 w 32 y ∧ de (P j) = B 13 w 33 y
/-- the bars so far have theirs -/
def CDn (V w b l : Int) (B : zB) : Prop := (∀ t, 0 ≤ t → t < b → 0 ≤ B 13 w 42 t ∧ B 13 w 42 t ≤ B 13 w 42 (t + 1) ∧ B 13 w 42 (t + 1) ≤ l) ∧ ∀ u y, 0 ≤ u → u < V → 800 * u ≤ y → y < 800 * u + B 13 w 13 u → 0 ≤ B 13 w 31 y → B 13 w 31 y < b → ∃ j, B 13 w 42 (B 13 w 31 y) ≤ j ∧ j < B 13 w 42 (B 13 w 31 y + 1) ∧ B 13 w 43 j = B 13 w 32 y ∧ B 13 w 44 j = B 13 w 33 y
theorem CDn_f {V w b l : Int} {B B' : zB} (h : CDn V w b l B) (r : ∀ k x, (k = 13 ∨ k = 31 ∨ k = 32 ∨ k = 33) → B' 13 w k x = B 13 w k x) (a : ∀ t, 0 ≤ t → t ≤ b → B' 13 w 42 t = B 13 w 42 t) (p : ∀ j, 0 ≤ j → j < l → B' 13 w 43 j = B 13 w 43 j ∧ B' 13 w 44 j = B 13 w 44 j) : CDn V w b l B' := by
  refine ⟨fun t t0 t1 => by rw [a t t0 (by first | decide | omega), a (t + 1) (by first | decide | omega) (by first | decide | omega)]; exact h.1 t t0 t1, fun u y u0 u1 y0 y1 z0 z1 => ?_⟩
  rw [r 31 y (by first | decide | omega)] at z0 z1
  rw [r 13 u (by first | decide | omega)] at y1
  have s := h.1 _ z0 z1
  obtain ⟨j, j0, j1, j2, j3⟩ := h.2 u y u0 u1 y0 y1 z0 z1
  refine ⟨j, ?_, ?_, ?_, ?_⟩
  · rw [r 31 y (by first | decide | omega), a _ z0 (by first | decide | omega)]; exact j0
  · rw [r 31 y (by first | decide | omega), a _ (by first | decide | omega) (by first | decide | omega)]; exact j1
  · rw [r 32 y (by first | decide | omega), (p j (by first | decide | omega) (by first | decide | omega)).1]; exact j2
  · rw [r 33 y (by first | decide | omega), (p j (by first | decide | omega) (by first | decide | omega)).2]; exact j3
/-- the widths of a bar's columns -/
theorem s_cl127 {K : Nat} {V w b s e : Int} {P : Int → Int} {F1 : zF} {B1 : zB} {rec : Int → Int → Int → zF → zB → zO} {Q : Int → zF → zB → Prop} (hK : 812851200 < K) (hR : RDW V w F1 B1) (hX : XS B1) (b1 : 0 ≤ b ∧ b < 100) (he : B1 13 w 42 (b + 1) = e) (s0 : 0 ≤ s) (e1 : e ≤ 3200) (hP : ∀ t, s ≤ t → t < e → CP w B1 t (P t) ∧ 0 ≤ P t ∧ P t < barV (F1 13 w 4) (F1 13 w 5)) (hs : ∀ j, s ≤ j → j + 1 < e → P j ≤ P (j + 1)) (hrec : ∀ F B, CG F1 F → (∀ c i k x, ¬ (c = 13 ∧ i = w ∧ (k = 45 ∨ k = 46)) → B c i k x = B1 c i k x) → XC B → zS (rec (b + 1) e w F B) Q) : ∀ (n : Nat) (j : Int) (F : zF) (B : zB), CG F1 F → (∀ c i k x, ¬ (c = 13 ∧ i = w ∧ (k = 45 ∨ k = 46)) → B c i k x = B1 c i k x) → XC B → B 13 w 46 b ≤ 6 + 100 * (j - s) → s ≤ j → j ≤ e → e - j < n → zS (f_M_columns_127 rec K n j b e w F B) Q := by
  have b0 := rd_0 hR
  intro n
  induction n with
  | zero => intro j F B _ _ _ _ _ _ hn; exfalso; omega
  | succ n ih =>
    intro j F B g f x h46 j0 j1 hn
    rw [f_M_columns_127]
    refine zS_g (by unfold r32; omega) ?_
    refine zS_g (by unfold r32; omega) ?_
    refine zS_i (fun h => ?_) (fun h => ?_)
    · exact hrec F B g f x
    · refine zS_g b0.1 ?_
      have hR' : RDW V w F B := RDW_f hR (fun k _ _ => g 13 w k (by first | decide | omega)) (fun k x _ h' => f 13 w k x (by first | decide | omega))
      have hX' : XS B := XS_f hX (fun i k x h1 h2 => f 13 i k x (by first | decide | omega)) (fun x => f 14 0 58 x (by first | decide | omega))
      obtain ⟨r, F', e', g', r0, r1⟩ := s_wide (K := K) (P := P) (e := e) (j := j) hK hR' hX' b1 (by rw [f 13 w 42 _ (by first | decide | omega)]; exact he) (by first | decide | omega) (by first | decide | omega) e1 (fun t t0 t1 => by
        obtain ⟨k1, k2, k3⟩ := hP t (by first | decide | omega) t1
        unfold CP at k1 ⊢
        rw [f 13 w 43 t (by first | decide | omega), f 13 w 44 t (by first | decide | omega), g 13 w 4 (by first | decide | omega), g 13 w 5 (by first | decide | omega)]
        exact ⟨k1, k2, k3⟩) (hs j j0)
      rw [e', zb_s]
      refine zS_g (by first | decide | omega) ?_
      refine zS_g b1 ?_
      have v1 : (zup4 B 13 w 45 j r) 13 w 46 b = B 13 w 46 b := by rw [zup4_v, if_neg (by first | decide | omega)]
      have v2 : (zup4 B 13 w 45 j r) 13 w 45 j = r := by rw [zup4_v, if_pos (by first | decide | omega)]
      rw [v1, v2]
      have x46 := (x w b).2.2
      exact ih (j + 1) F' _ (CG_t g g') (fun c i k y nn => by rw [zup4_v, if_neg (by first | decide | omega), zup4_v, if_neg (by first | decide | omega)]; exact f c i k y nn) (XC_u (XC_u x (Or.inr (Or.inl ⟨rfl, r0, r1⟩))) (Or.inr (Or.inr ⟨rfl, (by first | decide | omega), (by first | decide | omega)⟩))) (by rw [zup4_v, if_pos (by first | decide | omega)]; omega) (by first | decide | omega) (by first | decide | omega) (by first | decide | omega)
/-- within a bar -/
def CB1 (V w T b s l u i : Int) (P : Int → Int) (B0 B : zB) : Prop := CQ w B0 B ∧ B 13 w 42 b = s ∧ CS w T s l P B ∧ l ≤ (cn (qn V w B0 b u i) 3200 : Nat) ∧ CDn V w b s B ∧ CBn V w b s l u i P B
theorem s_cl34 {K : Nat} {V w T b s u : Int} {F : zF} {B0 : zB} {rec4 : Int → Int → Int → zF → zB → zO} {rec : Int → Int → Int → Int → zF → zB → zO} {Q : Int → zF → zB → Prop} (hK : 812851200 < K) (hR0 : RDW V w F B0) (hT : T = barV (F 13 w 4) (F 13 w 5)) (b1 : 0 ≤ b ∧ b < 100) (u0 : 0 ≤ u) (u1 : u < V) (hrec : ∀ l P B, CB1 V w T b s l (u + 1) 0 P B0 B → zS (rec (u + 1) b l w F B) Q) : ∀ (n : Nat) (i l : Int) (P : Int → Int) (B : zB), CB1 V w T b s l u i P B0 B → 0 ≤ i → i ≤ B0 13 w 13 u → B0 13 w 13 u - i < n → zS (f_M_columns_34 rec4 rec K n i u b l w F B) Q := by
  have b0 := rd_0 hR0
  have bv := rd_v hR0 u0 u1
  have b6 := barV_6 b0.2.2.2.1 (rd_5 hR0)
  intro n
  induction n with
  | zero => intro i l P B _ _ _ hn; exfalso; omega
  | succ n ih =>
    intro i l P B h i0 i1 hn
    have h' := h
    obtain ⟨q, h42, hC, hc, hD, hN⟩ := h
    have e13 := q.2 13 w 13 u (by first | decide | omega)
    have cl := cn_le (qn V w B0 b u i) 3200
    have hCb := hC.1
    rw [f_M_columns_34]
    refine zS_g b0.1 ?_
    refine zS_g (by first | decide | omega) ?_
    refine zS_g (by unfold r32; omega) ?_
    refine zS_g (by unfold r32; omega) ?_
    refine zS_i (fun a => ?_) (fun a => ?_)
    · refine hrec l P B ⟨q, h42, hC, ?_, hD, fun u' y a0 a1 a2 a3 a4 a5 => hN u' y a0 a1 a2 a3 a4 ?_⟩
      · have := cn_mono (q := qn V w B0 b u i) (q' := qn V w B0 b (u + 1) 0) 3200 (fun y _ hy => by
          simp only [qn, decide_eq_true_eq] at hy ⊢
          omega)
        omega
      · by_cases z : u' = u
        · subst z; omega
        · have := rd_v hR0 a0 a1
          have := q.2 13 w 13 u' (by first | decide | omega)
          omega
    · have y0 : 800 * u ≤ 800 * u + i := by omega
      have e31 := q.2 13 w 31 (800 * u + i) (by first | decide | omega)
      have e32 := q.2 13 w 32 (800 * u + i) (by first | decide | omega)
      have e33 := q.2 13 w 33 (800 * u + i) (by first | decide | omega)
      have nn := rd_n (y := 800 * u + i) hR0 u0 u1 y0 (by first | decide | omega)
      obtain ⟨p, ⟨p0, p1⟩, p2, p3⟩ := rd_q (y := 800 * u + i) hR0 u0 u1 y0 (by first | decide | omega)
      refine zS_g (by first | decide | omega) ?_
      refine zS_g (by unfold r32; omega) ?_
      refine zS_g (by unfold r32; omega) ?_
      refine zS_i (fun z => ?_) (fun z => ?_)
      · -- a note of this bar
        obtain ⟨Y, hY⟩ : ∃ Y : Nat, (Y : Int) = 800 * u + i := ⟨(800 * u + i).toNat, (by first | decide | omega)⟩
        have st := cn_lt (q := qn V w B0 b u i) (q' := qn V w B0 b u (i + 1)) (y0 := Y) (by
          simp only [qn, decide_eq_true_eq]
          rw [hY]
          omega) (by
          simp only [qn, decide_eq_true_eq]
          rw [hY, show (800 * u + i) / 800 = u by omega, show (800 * u + i) % 800 = i by omega]
          omega) 3200 (by first | decide | omega) (fun y _ hy => by
          simp only [qn, decide_eq_true_eq] at hy ⊢
          omega)
        have st2 := cn_le (qn V w B0 b u (i + 1)) 3200
        obtain ⟨r, P', B', c1, c2, c3, c4, ⟨jn, c5, c6, c7⟩, c8, c9⟩ := s_column (K := K) (P := P) (F := F) (B := B) (T := T) hK b0.1 (by first | decide | omega) h42 (by first | decide | omega) hC (by first | decide | omega) p0 (by first | decide | omega)
        rw [e32, e33, p2, p3, c1, zb_s, f_M_columns_90]
        refine ih (i + 1) r P' B' ⟨CQ_z q c3, by rw [c3 13 w 42 b (by first | decide | omega)]; exact h42, c4, (by first | decide | omega), CDn_f hD (fun k x hk => c3 13 w k x (by first | decide | omega)) (fun t _ _ => c3 13 w 42 t (by first | decide | omega)) (fun j j0 j1 => ⟨c3 13 w 43 j (by first | decide | omega), c3 13 w 44 j (by first | decide | omega)⟩), fun u' y a0 a1 a2 a3 a4 a5 => ?_⟩ (by first | decide | omega) (by first | decide | omega) (by first | decide | omega)
        rw [c3 13 w 13 u' (by first | decide | omega)] at a3
        rw [c3 13 w 31 y (by first | decide | omega)] at a4
        rw [c3 13 w 32 y (by first | decide | omega), c3 13 w 33 y (by first | decide | omega)]
        by_cases e : y = 800 * u + i
        · exact ⟨jn, c5, c6, by rw [c7, e, e32, p2], by rw [c7, e, e33, p3]⟩
        · obtain ⟨j, j0, j1, j2, j3⟩ := hN u' y a0 a1 a2 a3 a4 (by first | decide | omega)
          obtain ⟨j', k0, k1, k2⟩ := c8 j j0 j1
          exact ⟨j', k0, k1, by rw [k2]; exact j2, by rw [k2]; exact j3⟩
      · rw [f_M_columns_90]
        refine ih (i + 1) l P B ⟨q, h42, hC, ?_, hD, fun u' y a0 a1 a2 a3 a4 a5 => hN u' y a0 a1 a2 a3 a4 ?_⟩ (by first | decide | omega) (by first | decide | omega) (by first | decide | omega)
        · have := cn_mono (q := qn V w B0 b u i) (q' := qn V w B0 b u (i + 1)) 3200 (fun y _ hy => by
            simp only [qn, decide_eq_true_eq] at hy ⊢
            omega)
          omega
        · by_cases e : y = 800 * u + i
          · rw [e] at a4
            exact absurd a4 z
          · omega
/-- behind a bar -/
def CE1 (V w T b l : Int) (F0 F : zF) (B0 B : zB) : Prop := CG F0 F ∧ CQ w B0 B ∧ (0 ≤ l ∧ l ≤ (cn (qn V w B0 b 0 0) 3200 : Nat)) ∧ (∃ P : Int → Int, ∀ j, 0 ≤ j → j < l → CP w B j (P j) ∧ 0 ≤ P j ∧ P j < T) ∧ CDn V w b l B
theorem s_cl22 {K : Nat} {V w T b s : Int} {F0 F : zF} {B0 : zB} {rec : Int → Int → Int → zF → zB → zO} {Q : Int → zF → zB → Prop} (hK : 812851200 < K) (hR0 : RDW V w F B0) (hX0 : XS B0) (hg : CG F0 F) (hT : T = barV (F 13 w 4) (F 13 w 5)) (b1 : 0 ≤ b ∧ b < 100) (hrec : ∀ l F' B', CE1 V w T (b + 1) l F0 F' B0 B' → zS (rec (b + 1) l w F' B') Q) : ∀ (n : Nat) (u l : Int) (P : Int → Int) (B : zB), CB1 V w T b s l u 0 P B0 B → 0 ≤ u → u ≤ V → V - u < n → zS (f_M_columns_22 rec K n u b l w F B) Q := by
  have b0 := rd_0 hR0
  intro n
  induction n with
  | zero => intro u l P B _ _ _ hn; exfalso; omega
  | succ n ih =>
    intro u l P B h u0 u1 hn
    rw [f_M_columns_22]
    refine zS_g b0.1 ?_
    refine zS_g (by unfold r32; omega) ?_
    refine zS_g (by unfold r32; omega) ?_
    refine zS_i (fun a => ?_) (fun a => ?_)
    · obtain ⟨q, h42, hC, hc, hD, hN⟩ := h
      obtain rfl : u = V := by omega
      obtain ⟨⟨c1, c2, c3⟩, c4, c5⟩ := hC
      refine zS_g (by first | decide | omega) ?_
      refine zS_g b1 ?_
      refine zS_g (by first | decide | omega) ?_
      generalize hB1 : zup4 (zup4 B 13 w 42 (b + 1) l) 13 w 46 b 6 = B1
      have n1 : ∀ c i k x, ¬ (c = 13 ∧ i = w ∧ k = 42 ∧ x = b + 1) → ¬ (c = 13 ∧ i = w ∧ k = 46) → B1 c i k x = B c i k x := fun c i k x a1 a2 => by rw [← hB1, zup4_v, if_neg (by first | decide | omega), zup4_v, if_neg (by first | decide | omega)]
      have v1 : B1 13 w 42 (b + 1) = l := by rw [← hB1, zup4_v, if_neg (by first | decide | omega), zup4_v, if_pos (by first | decide | omega)]
      have v2 : B1 13 w 42 b = s := by rw [n1 13 w 42 b (by first | decide | omega) (by first | decide | omega)]; exact h42
      have v3 : B1 13 w 46 b = 6 := by rw [← hB1, zup4_v, if_pos (by first | decide | omega)]
      have q1 : CQ w B0 B1 := by
        rw [← hB1]
        exact CQ_u (CQ_u q (Or.inl ⟨rfl, (by first | decide | omega), (by first | decide | omega)⟩)) (Or.inr (Or.inr ⟨rfl, by decide, by decide⟩))
      have hR1 := RDW_c hR0 q1
      have hX1 := XS_c hX0 q1
      rw [v2]
      refine s_cl127 (P := P) (s := s) hK hR1 hX1 b1 v1 c1 c3 (fun t t0 t1 => ?_) c5 (fun F' B' g f x => ?_) K s F B1 (fun _ _ _ _ => rfl) (fun _ _ _ _ _ => rfl) q1.1 (by first | decide | omega) (Int.le_refl _) c2 (by first | decide | omega)
      · obtain ⟨k1, k2, k3⟩ := c4 t (by first | decide | omega) t1
        unfold CP at k1 ⊢
        rw [n1 13 w 43 t (by first | decide | omega) (by first | decide | omega), n1 13 w 44 t (by first | decide | omega) (by first | decide | omega), ← hT]
        exact ⟨k1, k2, k3⟩
      · -- the bar is done
        have ff : ∀ k x, ¬ (k = 45 ∨ k = 46) → ¬ (k = 42 ∧ x = b + 1) → B' 13 w k x = B 13 w k x := fun k x a1 a2 => by rw [f 13 w k x (by first | decide | omega), n1 13 w k x (by first | decide | omega) (by first | decide | omega)]
        refine hrec l F' B' ⟨CG_t hg g, ⟨x, fun c i k y nn => by rw [f c i k y (by first | decide | omega), q1.2 c i k y nn]⟩, ⟨(by first | decide | omega), ?_⟩, ⟨P, fun j j0 j1 => ?_⟩, fun t t0 t1 => ?_, fun u' y a0 a1 a2 a3 a4 a5 => ?_⟩
        · have := cn_mono (q := qn u w B0 b u 0) (q' := qn u w B0 (b + 1) 0 0) 3200 (fun y _ hy => by
            simp only [qn, decide_eq_true_eq] at hy ⊢
            omega)
          omega
        · obtain ⟨k1, k2, k3⟩ := c4 j (by first | decide | omega) j1
          unfold CP at k1 ⊢
          rw [ff 43 j (by first | decide | omega) (by first | decide | omega), ff 44 j (by first | decide | omega) (by first | decide | omega)]
          exact ⟨k1, k2, k3⟩
        · by_cases e : t = b
          · subst e
            rw [ff 42 t (by first | decide | omega) (by first | decide | omega), f 13 w 42 (t + 1) (by first | decide | omega), v1, h42]
            omega
          · have := hD.1 t t0 (by first | decide | omega)
            rw [ff 42 t (by first | decide | omega) (by first | decide | omega), ff 42 (t + 1) (by first | decide | omega) (by first | decide | omega)]
            omega
        · rw [ff 31 y (by first | decide | omega) (by first | decide | omega)] at a4 a5 ⊢
          rw [ff 13 u' (by first | decide | omega) (by first | decide | omega)] at a3
          rw [ff 32 y (by first | decide | omega) (by first | decide | omega), ff 33 y (by first | decide | omega) (by first | decide | omega)]
          by_cases e : B 13 w 31 y = b
          · have := rd_v hR0 a0 a1
            have := q.2 13 w 13 u' (by first | decide | omega)
            obtain ⟨j, j0, j1, j2, j3⟩ := hN u' y a0 a1 a2 a3 e (by first | decide | omega)
            refine ⟨j, ?_, ?_, ?_, ?_⟩
            · rw [e, ff 42 b (by first | decide | omega) (by first | decide | omega), h42]; exact j0
            · rw [e, f 13 w 42 (b + 1) (by first | decide | omega), v1]; exact j1
            · rw [ff 43 j (by first | decide | omega) (by first | decide | omega), (c4 j (by first | decide | omega) j1).1.1]; exact j2
            · rw [ff 44 j (by first | decide | omega) (by first | decide | omega), (c4 j (by first | decide | omega) j1).1.2]; exact j3
          · obtain ⟨j, j0, j1, j2, j3⟩ := hD.2 u' y a0 a1 a2 a3 a4 (by first | decide | omega)
            refine ⟨j, ?_, ?_, ?_, ?_⟩
            · rw [ff 42 _ (by first | decide | omega) (by first | decide | omega)]; exact j0
            · rw [ff 42 _ (by first | decide | omega) (by first | decide | omega)]; exact j1
            · rw [ff 43 j (by first | decide | omega) (by first | decide | omega)]; exact j2
            · rw [ff 44 j (by first | decide | omega) (by first | decide | omega)]; exact j3
    · have bv := rd_v hR0 u0 (show u < V by omega)
      exact s_cl34 hK hR0 hT b1 u0 (by first | decide | omega) (fun l P B h => ih (u + 1) l P B h (by first | decide | omega) (by first | decide | omega) (by first | decide | omega)) K 0 l P B h (by first | decide | omega) (by first | decide | omega) (by first | decide | omega)
/-- the columns, and every column's place a number -/
def CDm (V w b l : Int) (B : zB) : Prop := CDn V w b l B ∧ ∀ t j, 0 ≤ t → t < b → 0 ≤ j → j < B 13 w 42 (t + 1) → r64 (B 13 w 43 j) ∧ r64 (B 13 w 44 j)
theorem CP_64 {w j p : Int} {B : zB} (h : CP w B j p) (p0 : 0 ≤ p ∧ p ≤ 1000000000000) : r64 (B 13 w 43 j) ∧ r64 (B 13 w 44 j) := by
  have g := gc_pos (a := p) (b := WW) (by decide)
  have q1 : 0 ≤ p / gc p WW := Int.ediv_nonneg p0.1 (by first | decide | omega)
  have q2 : p / gc p WW ≤ p := Int.ediv_le_self _ p0.1
  have q3 : 0 ≤ WW / gc p WW := Int.ediv_nonneg (by decide) (by first | decide | omega)
  have q4 : WW / gc p WW ≤ WW := Int.ediv_le_self _ (by decide)
  have e : WW = 812851200 := rfl
  rw [h.1, h.2]
  unfold nu de r64
  omega
theorem s_cl4 {K : Nat} {V w T : Int} {F0 : zF} {B0 : zB} (hK : 812851200 < K) (hR0 : RDW V w F0 B0) (hX0 : XS B0) (hT : T = barV (F0 13 w 4) (F0 13 w 5)) : ∀ (n : Nat) (b l : Int) (F : zF) (B : zB), CE1 V w T b l F0 F B0 B → 0 ≤ b → b ≤ F0 13 w 7 → F0 13 w 7 - b < n → zS (f_M_columns_4 K n b l w F B) (fun _ F' B' => CG F0 F' ∧ CQ w B0 B' ∧ CDm V w (F0 13 w 7) 3200 B') := by
  have b0 := rd_0 hR0
  have bT := (bar_v hR0.2.2.2.1 hR0.2.2.2.2.1).2.2
  intro n
  induction n with
  | zero => intro b l F B _ _ _ hn; exfalso; omega
  | succ n ih =>
    intro b l F B h i0 i1 hn
    obtain ⟨hg, q, hl, ⟨P, hP⟩, hD⟩ := h
    have cl := cn_le (qn V w B0 b 0 0) 3200
    have e7 := hg 13 w 7 (by first | decide | omega)
    rw [f_M_columns_4]
    refine zS_g b0.1 ?_
    refine zS_g (by unfold r32; omega) ?_
    refine zS_g (by unfold r32; omega) ?_
    refine zS_i (fun a => ?_) (fun a => ?_)
    · obtain rfl : b = F0 13 w 7 := by omega
      exact zS_s ⟨hg, q, ⟨fun t t0 t1 => by have := hD.1 t t0 t1; omega, hD.2⟩, fun t j t0 t1 j0 j1 => by
        have := hD.1 t t0 t1
        obtain ⟨k1, k2, k3⟩ := hP j j0 (by first | decide | omega)
        exact CP_64 k1 ⟨k2, (by first | decide | omega)⟩⟩
    · refine zS_g (by first | decide | omega) ?_
      have hRF : RDW V w F B0 := RDW_g hR0 hg
      refine s_cl22 (T := T) (s := l) hK hRF hX0 hg (by rw [hg 13 w 4 (by first | decide | omega), hg 13 w 5 (by first | decide | omega)]; exact hT) (by first | decide | omega) (fun l' F' B' h' => ih (b + 1) l' F' B' h' (by first | decide | omega) (by first | decide | omega) (by first | decide | omega)) K 0 l P _ ⟨CQ_u q (Or.inl ⟨rfl, (by first | decide | omega), (by first | decide | omega)⟩), by rw [zup4_v, if_pos (by first | decide | omega)], ⟨(by first | decide | omega), fun j j0 j1 => ?_, fun j j0 j1 => (by first | decide | omega)⟩, hl.2, ⟨fun t t0 t1 => ?_, fun u y a0 a1 a2 a3 a4 a5 => ?_⟩, fun u' y a0 a1 a2 a3 a4 a5 => (by first | decide | omega)⟩ (by first | decide | omega) (by first | decide | omega) (by first | decide | omega)
      · obtain ⟨k1, k2, k3⟩ := hP j j0 j1
        unfold CP at k1 ⊢
        rw [zup4_v, if_neg (by first | decide | omega), zup4_v, if_neg (by first | decide | omega)]
        exact ⟨k1, k2, k3⟩
      · have := hD.1 t t0 t1
        rw [zup4_v, if_neg (by first | decide | omega), zup4_v]
        split <;> omega
      · rw [zup4_v, if_neg (by first | decide | omega)] at a3 a4 a5
        have s := hD.1 _ a4 a5
        obtain ⟨j, j0, j1, j2, j3⟩ := hD.2 u y a0 a1 a2 a3 a4 a5
        refine ⟨j, ?_, ?_, ?_, ?_⟩
        · rw [show (zup4 B 13 w 42 b l) 13 w 31 y = B 13 w 31 y by rw [zup4_v, if_neg (by first | decide | omega)], zup4_v, if_neg (by first | decide | omega)]; exact j0
        · rw [show (zup4 B 13 w 42 b l) 13 w 31 y = B 13 w 31 y by rw [zup4_v, if_neg (by first | decide | omega)], zup4_v]
          split <;> omega
        · rw [zup4_v, if_neg (by first | decide | omega), zup4_v, if_neg (by first | decide | omega)]; exact j2
        · rw [zup4_v, if_neg (by first | decide | omega), zup4_v, if_neg (by first | decide | omega)]; exact j3
theorem s_columns {K : Nat} {V w : Int} {F : zF} {B : zB} (hK : 812851200 < K) (hR : RDW V w F B) (hX : XS B) (hC : XC B) : zS (f_M_columns K w F B) (fun _ F' B' => CG F F' ∧ CQ w B B' ∧ CDm V w (F 13 w 7) 3200 B') := by
  have b0 := rd_0 hR
  unfold f_M_columns
  refine s_cl4 hK hR hX rfl K 0 0 F B ⟨fun _ _ _ _ => rfl, CQ_r hC, ⟨by decide, (by first | decide | omega)⟩, ⟨fun _ => 0, fun j j0 j1 => (by first | decide | omega)⟩, fun t t0 t1 => (by first | decide | omega), fun u y a0 a1 a2 a3 a4 a5 => (by first | decide | omega)⟩ (by decide) (by first | decide | omega) (by first | decide | omega)
end
