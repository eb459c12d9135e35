section
section
/-! ===== the columns of a read piece, reference: exactly ===== -/
theorem SI_c {c : Int} {T T' : Int → Int} (h : SI c T) (e : ∀ t, 0 ≤ t → t < c → T' t = T t) : SI c T' := fun t t0 t1 => by
  rw [e t t0 (by first | decide | omega), e (t + 1) (by first | decide | omega) t1]
  exact h t t0 t1
theorem RS_t {c : Int} {T T' : Int → Int} {A : Int → Prop} (h : RS c T A) (e : ∀ t, 0 ≤ t → t < c → T' t = T t) : RS c T' A := fun x => by
  rw [← h x]
  constructor
  · rintro ⟨t, t0, t1, z⟩
    exact ⟨t, t0, t1, by rw [← e t t0 t1]; exact z⟩
  · rintro ⟨t, t0, t1, z⟩
    exact ⟨t, t0, t1, by rw [e t t0 t1]; exact z⟩
/-- the sum of n numbers from a on -/
def smR (f : Int → Int) : Int → Nat → Int
  | _, 0 => 0
  | a, n + 1 => f a + smR f (a + 1) n
theorem smR_c {f f' : Int → Int} : ∀ (n : Nat) (a : Int), (∀ j, a ≤ j → j < a + n → f' j = f j) → smR f' a n = smR f a n := by
  intro n
  induction n with
  | zero => intro a _; rfl
  | succ n ih =>
    intro a h
    rw [smR, smR, h a (Int.le_refl _) (by first | decide | omega), ih (a + 1) (fun j j0 j1 => h j (by first | decide | omega) (by first | decide | omega))]
def DQx (w : Int) (B B' : zB) : Prop := ∀ c i k x, ¬ (c = 13 ∧ i = w ∧ 42 ≤ k ∧ k ≤ 46) → B' c i k x = B c i k x
theorem x_col11 {K : Nat} {w b s l p T : Int} {P : Int → Int} {F : zF} {B : zB} (w0 : 0 ≤ w ∧ w < 3) (T1 : T ≤ 1000000000000) (s0 : 0 ≤ s) (l1 : l ≤ 3200) (hC : ∀ j, 0 ≤ j → j < l → CP w B j (P j) ∧ 0 ≤ P j ∧ P j < T) (p0 : 0 ≤ p) (p1 : p < T) : ∀ (n : Nat) (t : Int), s ≤ t → t ≤ l → l - t < n → (∀ j, s ≤ j → j < t → ¬ P j = p) → (f_M_column_11 K n t l w b l (nu p) (de p) F B = f_M_column_51 K K l w b l (nu p) (de p) F B ∧ ∀ j, s ≤ j → j < l → ¬ P j = p) ∨ (f_M_column_11 K n t l w b l (nu p) (de p) F B = some (l, F, B) ∧ ∃ j, s ≤ j ∧ j < l ∧ P j = p) := by
  intro n
  have np := nd_r p0 (by first | decide | omega)
  induction n with
  | zero => intro t _ _ hn; exfalso; omega
  | succ n ih =>
    intro t ts tl hn nf
    rw [f_M_column_11, if_pos (by unfold r32; omega), if_pos (by unfold r32; omega)]
    by_cases a : l ≤ t
    · rw [if_pos a]; exact Or.inl ⟨rfl, fun j j0 j1 => nf j j0 (by first | decide | omega)⟩
    · rw [if_neg a, if_pos w0, if_pos (by first | decide | omega)]
      obtain ⟨⟨k1, k2⟩, q0, q1⟩ := hC t (by first | decide | omega) (by first | decide | omega)
      have nq := nd_r q0 (by first | decide | omega)
      have nx : ¬ P t = p → (f_M_column_45 (f_M_column_11 K n) K t l w b l (nu p) (de p) F B = f_M_column_51 K K l w b l (nu p) (de p) F B ∧ ∀ j, s ≤ j → j < l → ¬ P j = p) ∨ (f_M_column_45 (f_M_column_11 K n) K t l w b l (nu p) (de p) F B = some (l, F, B) ∧ ∃ j, s ≤ j ∧ j < l ∧ P j = p) := fun ne => by
        rw [f_M_column_45]
        refine ih (t + 1) (by first | decide | omega) (by first | decide | omega) (by first | decide | omega) (fun j j0 j1 => ?_)
        by_cases e : j = t
        · rw [e]; exact ne
        · exact nf j j0 (by first | decide | omega)
      rw [k1, k2, if_pos (by unfold r64; omega), if_pos (by unfold r64; omega)]
      by_cases y : nu (P t) = nu p
      · rw [if_pos (zcmp_0.mpr y), if_pos (by unfold r64; omega), if_pos (by unfold r64; omega)]
        by_cases z : de (P t) = de p
        · rw [if_pos (zcmp_0.mpr z)]
          exact Or.inr ⟨rfl, t, ts, (by first | decide | omega), nd_inj q0 p0 y z⟩
        · rw [if_neg (fun h => z (zcmp_0.mp h))]
          exact nx (fun e => z (by rw [e]))
      · rw [if_neg (fun h => y (zcmp_0.mp h))]
        exact nx (fun e => y (by rw [e]))
theorem x_column {K : Nat} {w b s l p T : Int} {P : Int → Int} {A : Int → Prop} {F : zF} {B : zB} (hKm : 812851200 < K) (w0 : 0 ≤ w ∧ w < 3) (b0 : 0 ≤ b ∧ b < 101) (hs : B 13 w 42 b = s) (T1 : T ≤ 1000000000000) (s0 : 0 ≤ s) (sl : s ≤ l) (hC : ∀ j, 0 ≤ j → j < l → CP w B j (P j) ∧ 0 ≤ P j ∧ P j < T) (l1 : l < 3200) (p0 : 0 ≤ p) (p1 : p < T) (hI : SI (l - s) (fun t => P (s + t))) (hR : RS (l - s) (fun t => P (s + t)) A) : ∃ (r : Int) (P' : Int → Int) (B' : zB), f_M_column K w b l (nu p) (de p) F B = some (r, F, B') ∧ (r = l ∨ r = l + 1) ∧ CZ w s B B' ∧ (∀ j, 0 ≤ j → j < r → CP w B' j (P' j) ∧ 0 ≤ P' j ∧ P' j < T) ∧ (∀ j, j < s → P' j = P j) ∧ SI (r - s) (fun t => P' (s + t)) ∧ RS (r - s) (fun t => P' (s + t)) (fun x => A x ∨ x = p) := by
  unfold f_M_column
  rw [if_pos w0, if_pos b0, hs]
  rcases x_col11 (K := K) (b := b) (F := F) w0 T1 s0 (by first | decide | omega) hC p0 p1 K s (Int.le_refl _) sl (by first | decide | omega) (fun j a c => (by first | decide | omega)) with ⟨e, nf⟩ | ⟨e, j, j0, j1, j2⟩
  · rw [e]
    obtain ⟨t, B', g1, g2, g3, g4, g5, g6, g7, g8, g9⟩ := s_col51 (K := K) (F := F) (P := P) hKm w0 b0 hs s0 l1 p0 (by first | decide | omega) (fun j a c => ⟨(hC j a c).2.1, by have := (hC j a c).2.2; omega⟩) K l B (fun _ _ _ _ _ => rfl) sl (Int.le_refl _) (fun j a c => (hC j a c).1) (fun j a c => (by first | decide | omega)) (fun j a c => (by first | decide | omega)) (by first | decide | omega)
    have ef : (fun i => puT P t p (s + i)) = puT (fun i => P (s + i)) (t - s) p := by
      funext i
      unfold puT
      by_cases x : i < t - s
      · rw [if_pos (show s + i < t by omega), if_pos x]
      · rw [if_neg (show ¬ s + i < t by omega), if_neg x]
        by_cases y : i = t - s
        · rw [if_pos (show s + i = t by omega), if_pos y]
        · rw [if_neg (show ¬ s + i = t by omega), if_neg y, show s + i - 1 = s + (i - 1) by omega]
    refine ⟨l + 1, puT P t p, B', g1, Or.inr rfl, g4, fun j a c => ?_, fun j a => ?_, ?_, ?_⟩
    · unfold puT
      by_cases x : j < t
      · rw [if_pos x]; exact ⟨g5 j a x, (hC j a (by first | decide | omega)).2⟩
      · rw [if_neg x]
        by_cases y : j = t
        · rw [if_pos y, y]; exact ⟨g6, p0, p1⟩
        · rw [if_neg y]; exact ⟨g7 j (by first | decide | omega) (by first | decide | omega), (hC (j - 1) (by first | decide | omega) (by first | decide | omega)).2⟩
    · unfold puT
      rw [if_pos (by first | decide | omega)]
    · rw [ef, show l + 1 - s = l - s + 1 by omega]
      refine puT_i hI (by first | decide | omega) (by first | decide | omega) ?_ (fun i i0 i1 => ?_)
      · by_cases z : t = s
        · exact Or.inl (by first | decide | omega)
        · refine Or.inr ?_
          show P (s + (t - s - 1)) < p
          rw [show s + (t - s - 1) = t - 1 by omega]
          have a1 := g8 (by first | decide | omega)
          have a2 := nf (t - 1) (by first | decide | omega) (by first | decide | omega)
          omega
      · have a1 := g9 (by first | decide | omega)
        have m : P (s + (t - s)) ≤ P (s + i) := SI_le (T := fun i => P (s + i)) hI (by first | decide | omega) i0 i1
        rw [show s + (t - s) = t by omega] at m
        show p < P (s + i)
        omega
    · rw [ef, show l + 1 - s = l - s + 1 by omega]
      exact puT_r hR (by first | decide | omega) (by first | decide | omega)
  · refine ⟨l, P, B, e, Or.inl rfl, fun _ _ _ _ _ => rfl, hC, fun _ _ => rfl, hI, RS_c hR (fun x => ⟨Or.inl, fun h => ?_⟩)⟩
    rcases h with h | h
    · exact h
    · exact (hR x).mp ⟨j - s, (by first | decide | omega), (by first | decide | omega), by show P (s + (j - s)) = x; rw [show s + (j - s) = j by omega, j2, h]⟩
/-- bar t's columns: from s to e -/
def CXe (V w T t s e : Int) (P : Int → Int) (B0 B : zB) : Prop := (0 ≤ s ∧ s ≤ e ∧ e ≤ 3200) ∧ SI (e - s) (fun i => P (s + i)) ∧ RS (e - s) (fun i => P (s + i)) (aNt V w t (800 * V) B0) ∧ (∀ j, s ≤ j → j < e → CP w B j (P j) ∧ (0 ≤ P j ∧ P j < T) ∧ WDx V w t (P j) B0 (lw2 40 (((if j + 1 = e then T else P (j + 1)) - P j) / 6350400)) (B 13 w 45 j)) ∧ B 13 w 46 t = 6 + smR (fun j => B 13 w 45 j) s (e - s).toNat
theorem CXe_f {V w T t s e : Int} {P P' : Int → Int} {B0 B B' : zB} (h : CXe V w T t s e P B0 B) (hp : ∀ j, s ≤ j → j < e → P' j = P j) (b : ∀ k j, k = 43 ∨ k = 44 ∨ k = 45 → s ≤ j → j < e → B' 13 w k j = B 13 w k j) (b6 : B' 13 w 46 t = B 13 w 46 t) : CXe V w T t s e P' B0 B' := by
  obtain ⟨h1, h2, h3, h4, h5⟩ := h
  refine ⟨h1, SI_c h2 (fun i i0 i1 => hp _ (by first | decide | omega) (by first | decide | omega)), RS_t h3 (fun i i0 i1 => hp _ (by first | decide | omega) (by first | decide | omega)), fun j j0 j1 => ?_, ?_⟩
  · obtain ⟨k1, k2, k3⟩ := h4 j j0 j1
    have e1 : (if j + 1 = e then T else P' (j + 1)) = if j + 1 = e then T else P (j + 1) := by
      by_cases z : j + 1 = e
      · rw [if_pos z, if_pos z]
      · rw [if_neg z, if_neg z, hp (j + 1) (by first | decide | omega) (by first | decide | omega)]
    unfold CP at k1 ⊢
    rw [e1, hp j j0 j1, b 43 j (by first | decide | omega) j0 j1, b 44 j (by first | decide | omega) j0 j1, b 45 j (by first | decide | omega) j0 j1]
    exact ⟨k1, k2, k3⟩
  · rw [b6, h5, smR_c (f := fun j => B 13 w 45 j) (f' := fun j => B' 13 w 45 j) _ s (fun j j0 j1 => b 45 j (by first | decide | omega) j0 (by first | decide | omega))]
/-- the bars before b -/
def CXb (V w T b : Int) (P : Int → Int) (B0 B : zB) : Prop := (0 < b → B 13 w 42 0 = 0) ∧ ∀ t, 0 ≤ t → t < b → CXe V w T t (B 13 w 42 t) (B 13 w 42 (t + 1)) P B0 B ∧ B 13 w 42 (t + 1) ≤ B 13 w 42 b
theorem CXb_f {V w T b s : Int} {P P' : Int → Int} {B0 B B' : zB} (h : CXb V w T b P B0 B) (hb : B 13 w 42 b = s) (hp : ∀ j, j < s → P' j = P j) (b2 : ∀ t, 0 ≤ t → t ≤ b → B' 13 w 42 t = B 13 w 42 t) (b3 : ∀ k j, k = 43 ∨ k = 44 ∨ k = 45 → j < s → B' 13 w k j = B 13 w k j) (b6 : ∀ t, t < b → B' 13 w 46 t = B 13 w 46 t) : CXb V w T b P' B0 B' := by
  refine ⟨fun z => by rw [b2 0 (by decide) (by first | decide | omega)]; exact h.1 z, fun t t0 t1 => ?_⟩
  obtain ⟨h1, h2⟩ := h.2 t t0 t1
  rw [b2 t t0 (by first | decide | omega), b2 (t + 1) (by first | decide | omega) (by first | decide | omega), b2 b (by first | decide | omega) (Int.le_refl _)]
  refine ⟨CXe_f h1 (fun j _ j1 => hp j (by first | decide | omega)) (fun k j hk _ j1 => b3 k j hk (by first | decide | omega)) (b6 t t1), h2⟩
/-- within bar b -/
def CX1 (V w T b s l u i : Int) (P : Int → Int) (B0 B : zB) : Prop := DQx w B0 B ∧ B 13 w 42 b = s ∧ ((0 ≤ s ∧ s ≤ l ∧ l ≤ 3200) ∧ ∀ j, 0 ≤ j → j < l → CP w B j (P j) ∧ 0 ≤ P j ∧ P j < T) ∧ l ≤ (cn (qn V w B0 b u i) 3200 : Nat) ∧ (SI (l - s) (fun t => P (s + t)) ∧ RS (l - s) (fun t => P (s + t)) (aNt V w b (800 * u + i) B0)) ∧ CXb V w T b P B0 B
theorem x_cl34 {K : Nat} {V w T b s u : Int} {F : zF} {B0 : zB} {rec4 : Int → Int → Int → zF → zB → zO} {rec : Int → Int → Int → Int → zF → zB → zO} (hK : 812851200 < K) (hR0 : RDW V w F B0) (hT : T = barV (F 13 w 4) (F 13 w 5)) (b1 : 0 ≤ b ∧ b < 100) (u0 : 0 ≤ u) (u1 : u < V) : ∀ (n : Nat) (i l : Int) (P : Int → Int) (B : zB), CX1 V w T b s l u i P B0 B → 0 ≤ i → i ≤ B0 13 w 13 u → B0 13 w 13 u - i < n → ∃ (l' : Int) (P' : Int → Int) (B' : zB), f_M_columns_34 rec4 rec K n i u b l w F B = rec (u + 1) b l' w F B' ∧ CX1 V w T b s l' (u + 1) 0 P' B0 B' := by
  have b0 := rd_0 hR0
  have bv := rd_v hR0 u0 u1
  have b6 := barV_6 b0.2.2.2.1 (rd_5 hR0)
  have V4 : V ≤ 4 := b0.2.1.2.2
  intro n
  induction n with
  | zero => intro i l P B _ _ _ hn; exfalso; omega
  | succ n ih =>
    intro i l P B h i0 i1 hn
    obtain ⟨q, h42, ⟨hc0, hC⟩, hc, ⟨hI, hR⟩, hB⟩ := h
    have e13 : B 13 w 13 u = B0 13 w 13 u := q 13 w 13 u (by first | decide | omega)
    have cl := cn_le (qn V w B0 b u i) 3200
    rw [f_M_columns_34, if_pos b0.1, if_pos (show 0 ≤ u ∧ u < 4 by omega), if_pos (show r32 i by unfold r32; omega), e13, if_pos (show r32 (B0 13 w 13 u) by unfold r32; omega)]
    by_cases a : B0 13 w 13 u ≤ i
    · rw [if_pos a]
      refine ⟨l, P, B, rfl, q, h42, ⟨hc0, hC⟩, ?_, ⟨hI, RS_c hR (fun x => ⟨fun hy => ?_, fun hy => ?_⟩)⟩, hB⟩
      · have := cn_mono (q := qn V w B0 b u i) (q' := qn V w B0 b (u + 1) 0) 3200 (fun y _ hy => by
          simp only [qn, decide_eq_true_eq] at hy ⊢
          omega)
        omega
      · obtain ⟨x0, y, u', a0, a1, a2, a3, a4, a5, a6, a7⟩ := hy
        exact ⟨x0, y, u', a0, a1, a2, a3, a4, a5, a6, (by first | decide | omega)⟩
      · obtain ⟨x0, y, u', a0, a1, a2, a3, a4, a5, a6, a7⟩ := hy
        refine ⟨x0, y, u', a0, a1, a2, a3, a4, a5, a6, ?_⟩
        have := rd_v hR0 a0 a1
        by_cases z : u' = u
        · rw [z] at a3; omega
        · omega
    have e31 : B 13 w 31 (800 * u + i) = B0 13 w 31 (800 * u + i) := q 13 w 31 (800 * u + i) (by first | decide | omega)
    have e32 : B 13 w 32 (800 * u + i) = B0 13 w 32 (800 * u + i) := q 13 w 32 (800 * u + i) (by first | decide | omega)
    have e33 : B 13 w 33 (800 * u + i) = B0 13 w 33 (800 * u + i) := q 13 w 33 (800 * u + i) (by first | decide | omega)
    have nn := rd_n (y := 800 * u + i) hR0 u0 u1 (by first | decide | omega) (by first | decide | omega)
    obtain ⟨p, ⟨p0, p1⟩, p2, p3⟩ := rd_q (y := 800 * u + i) hR0 u0 u1 (by first | decide | omega) (by first | decide | omega)
    rw [if_neg a, if_pos (show 0 ≤ 800 * u + i ∧ 800 * u + i < 3200 by omega), e31, if_pos (show r32 (B0 13 w 31 (800 * u + i)) by unfold r32; omega), if_pos (show r32 b by unfold r32; omega)]
    by_cases z : B0 13 w 31 (800 * u + i) = b
    · -- a note of this bar
      obtain ⟨Y, hY⟩ : ∃ Y : Nat, (Y : Int) = 800 * u + i := ⟨(800 * u + i).toNat, (by first | decide | omega)⟩
      have st := cn_lt (q := qn V w B0 b u i) (q' := qn V w B0 b u (i + 1)) (y0 := Y) (by
        simp only [qn, decide_eq_true_eq]
        rw [hY]
        omega) (by
        simp only [qn, decide_eq_true_eq]
        rw [hY, show (800 * u + i) / 800 = u by omega, show (800 * u + i) % 800 = i by omega]
        omega) 3200 (by first | decide | omega) (fun y _ hy => by
        simp only [qn, decide_eq_true_eq] at hy ⊢
        omega)
      have st2 := cn_le (qn V w B0 b u (i + 1)) 3200
      obtain ⟨r, P', B', c1, c2, c3, c4, c5, c6, c7⟩ := x_column (K := K) (P := P) (F := F) (B := B) (T := T) (b := b) (l := l) (p := p) hK b0.1 (by first | decide | omega) h42 (by first | decide | omega) hc0.1 hc0.2.1 hC (by first | decide | omega) p0 (by first | decide | omega) hI hR
      rw [if_pos z, e32, e33, p2, p3, c1, zb_s, f_M_columns_90]
      refine ih (i + 1) r P' B' ⟨fun c i k x hh => by rw [c3 c i k x (by first | decide | omega), q c i k x hh], by rw [c3 13 w 42 b (by first | decide | omega)]; exact h42, ⟨(by first | decide | omega), c4⟩, (by first | decide | omega), ⟨c6, RS_c c7 (fun x => ⟨fun hy => ?_, fun hy => ?_⟩)⟩, CXb_f hB h42 c5 (fun t _ _ => c3 13 w 42 t (by first | decide | omega)) (fun k j hk j1 => c3 13 w k j (by first | decide | omega)) (fun t _ => c3 13 w 46 t (by first | decide | omega))⟩ (by first | decide | omega) (by first | decide | omega) (by first | decide | omega)
      · rcases hy with ⟨x0, y, u', a0, a1, a2, a3, a4, a5, a6, a7⟩ | hy
        · exact ⟨x0, y, u', a0, a1, a2, a3, a4, a5, a6, (by first | decide | omega)⟩
        · rw [hy]
          exact ⟨p0, 800 * u + i, u, u0, u1, (by first | decide | omega), (by first | decide | omega), z, p2, p3, (by first | decide | omega)⟩
      · obtain ⟨x0, y, u', a0, a1, a2, a3, a4, a5, a6, a7⟩ := hy
        by_cases e : y = 800 * u + i
        · rw [e, p2] at a5
          rw [e, p3] at a6
          exact Or.inr (nd_inj x0 p0 a5.symm a6.symm)
        · exact Or.inl ⟨x0, y, u', a0, a1, a2, a3, a4, a5, a6, (by first | decide | omega)⟩
    · rw [if_neg z, f_M_columns_90]
      refine ih (i + 1) l P B ⟨q, h42, ⟨hc0, hC⟩, ?_, ⟨hI, RS_c hR (fun x => ⟨fun hy => ?_, fun hy => ?_⟩)⟩, hB⟩ (by first | decide | omega) (by first | decide | omega) (by first | decide | omega)
      · have := cn_mono (q := qn V w B0 b u i) (q' := qn V w B0 b u (i + 1)) 3200 (fun y _ hy => by
          simp only [qn, decide_eq_true_eq] at hy ⊢
          omega)
        omega
      · obtain ⟨x0, y, u', a0, a1, a2, a3, a4, a5, a6, a7⟩ := hy
        exact ⟨x0, y, u', a0, a1, a2, a3, a4, a5, a6, (by first | decide | omega)⟩
      · obtain ⟨x0, y, u', a0, a1, a2, a3, a4, a5, a6, a7⟩ := hy
        by_cases e : y = 800 * u + i
        · rw [e] at a4
          exact absurd a4 z
        · exact ⟨x0, y, u', a0, a1, a2, a3, a4, a5, a6, (by first | decide | omega)⟩
/-- the widths of a bar's columns -/
theorem x_cl127 {K : Nat} {V w T b s e : Int} {P : Int → Int} {F1 : zF} {B1 : zB} {rec : Int → Int → Int → zF → zB → zO} (hK : 812851200 < K) (hR : RDW V w F1 B1) (hX : XS B1) (hT : T = barV (F1 13 w 4) (F1 13 w 5)) (b1 : 0 ≤ b ∧ b < 100) (he : B1 13 w 42 (b + 1) = e) (s0 : 0 ≤ s) (e1 : e ≤ 3200) (hP : ∀ t, s ≤ t → t < e → CP w B1 t (P t) ∧ 0 ≤ P t ∧ P t < T) (hs : ∀ j, s ≤ j → j + 1 < e → P j < P (j + 1)) : ∀ (r n : Nat) (j : Int) (F : zF) (B : zB), CG F1 F → (∀ c i k x, ¬ (c = 13 ∧ i = w ∧ (k = 45 ∨ k = 46)) → B c i k x = B1 c i k x) → s ≤ j → j + r = e → r < n → ∃ F' B', f_M_columns_127 rec K n j b e w F B = rec (b + 1) e w F' B' ∧ CG F1 F' ∧ (∀ c i k x, ¬ (c = 13 ∧ i = w ∧ ((k = 45 ∧ j ≤ x ∧ x < e) ∨ (k = 46 ∧ x = b))) → B' c i k x = B c i k x) ∧ (∀ t, j ≤ t → t < e → WDx V w b (P t) B1 (lw2 40 (((if t + 1 = e then T else P (t + 1)) - P t) / 6350400)) (B' 13 w 45 t)) ∧ B' 13 w 46 b = B 13 w 46 b + smR (fun t => B' 13 w 45 t) j r := by
  have b0 := rd_0 hR
  intro r
  induction r with
  | zero =>
    intro n j F B g f j0 j1 hn
    obtain ⟨n, rfl⟩ : ∃ k, n = k + 1 := ⟨n - 1, (by first | decide | omega)⟩
    rw [f_M_columns_127, if_pos (show r32 j by unfold r32; omega), if_pos (show r32 e by unfold r32; omega), if_pos (show e ≤ j by omega)]
    exact ⟨F, B, rfl, g, fun _ _ _ _ _ => rfl, fun t a c => (by first | decide | omega), by rw [smR, Int.add_zero]⟩
  | succ r ih =>
    intro n j F B g f j0 j1 hn
    obtain ⟨n, rfl⟩ : ∃ k, n = k + 1 := ⟨n - 1, (by first | decide | omega)⟩
    have hR' : RDW V w F B := RDW_f hR (fun k _ _ => g 13 w k (by first | decide | omega)) (fun k x _ h' => f 13 w k x (by first | decide | omega))
    have hX' : XS B := XS_f hX (fun i k x h1 h2 => f 13 i k x (by first | decide | omega)) (fun x => f 14 0 58 x (by first | decide | omega))
    obtain ⟨v, F2, x1, x2, x3⟩ := x_wide (K := K) (P := P) (e := e) (j := j) (b := b) (T := T) hK hR' hX' (by rw [g 13 w 4 (by first | decide | omega), g 13 w 5 (by first | decide | omega)]; exact hT) b1 (by rw [f 13 w 42 _ (by first | decide | omega)]; exact he) (by first | decide | omega) (by first | decide | omega) e1 (fun t t0 t1 => by
      obtain ⟨k1, k2, k3⟩ := hP t (by first | decide | omega) t1
      unfold CP at k1 ⊢
      rw [f 13 w 43 t (by first | decide | omega), f 13 w 44 t (by first | decide | omega)]
      exact ⟨k1, k2, k3⟩) (hs j j0)
    have v1 : (zup4 B 13 w 45 j v) 13 w 46 b = B 13 w 46 b := by rw [zup4_v, if_neg (by first | decide | omega)]
    have v2 : (zup4 B 13 w 45 j v) 13 w 45 j = v := by rw [zup4_v, if_pos (by first | decide | omega)]
    rw [f_M_columns_127, if_pos (show r32 j by unfold r32; omega), if_pos (show r32 e by unfold r32; omega), if_neg (show ¬ e ≤ j by omega), if_pos b0.1, x1, zb_s, if_pos (show 0 ≤ j ∧ j < 3200 by omega), if_pos b1, v1, v2]
    obtain ⟨F', B', y1, y2, y3, y4, y5⟩ := ih n (j + 1) F2 (zup4 (zup4 B 13 w 45 j v) 13 w 46 b (B 13 w 46 b + v)) (CG_t g x2) (fun c i k x nn => by rw [zup4_v, if_neg (by first | decide | omega), zup4_v, if_neg (by first | decide | omega)]; exact f c i k x nn) (by first | decide | omega) (by first | decide | omega) (by first | decide | omega)
    have e45 : B' 13 w 45 j = v := by rw [y3 13 w 45 j (by first | decide | omega), zup4_v, if_neg (by first | decide | omega), zup4_v, if_pos (by first | decide | omega)]
    refine ⟨F', B', y1, y2, fun c i k x nn => by rw [y3 c i k x (by first | decide | omega), zup4_v, if_neg (by first | decide | omega), zup4_v, if_neg (by first | decide | omega)], fun t t0 t1 => ?_, ?_⟩
    · by_cases z : t = j
      · rw [z, e45]
        exact WDx_f (fun k y hk => (f 13 w k y (by first | decide | omega)).symm) x3
      · exact y4 t (by first | decide | omega) t1
    · rw [y5, zup4_v, if_pos (by first | decide | omega), smR, e45]
      omega
/-- behind bar b - 1 -/
def CX2 (V w T b l : Int) (F0 F : zF) (B0 B : zB) : Prop := CG F0 F ∧ DQx w B0 B ∧ (0 ≤ l ∧ l ≤ (cn (qn V w B0 b 0 0) 3200 : Nat)) ∧ (0 < b → B 13 w 42 b = l) ∧ ∃ P : Int → Int, (∀ j, 0 ≤ j → j < l → CP w B j (P j) ∧ 0 ≤ P j ∧ P j < T) ∧ CXb V w T b P B0 B
theorem x_cl22 {K : Nat} {V w T b s : Int} {F0 F : zF} {B0 : zB} {rec : Int → Int → Int → zF → zB → zO} (hK : 812851200 < K) (hR0 : RDW V w F B0) (hX0 : XS B0) (hg : CG F0 F) (hT : T = barV (F 13 w 4) (F 13 w 5)) (b1 : 0 ≤ b ∧ b < 100) (s0 : b = 0 → s = 0) : ∀ (n : Nat) (u l : Int) (P : Int → Int) (B : zB), CX1 V w T b s l u 0 P B0 B → 0 ≤ u → u ≤ V → V - u < n → ∃ l' F' B', f_M_columns_22 rec K n u b l w F B = rec (b + 1) l' w F' B' ∧ CX2 V w T (b + 1) l' F0 F' B0 B' := by
  have b0 := rd_0 hR0
  intro n
  induction n with
  | zero => intro u l P B _ _ _ hn; exfalso; omega
  | succ n ih =>
    intro u l P B h u0 u1 hn
    rw [f_M_columns_22, if_pos b0.1, if_pos (show r32 u by unfold r32; omega), if_pos (show r32 (F 13 w 1) by unfold r32; omega)]
    by_cases a : F 13 w 1 ≤ u
    · obtain ⟨q, h42, ⟨hc0, hC⟩, hc, ⟨hI, hR⟩, hB⟩ := h
      have eu : u = V := by omega
      rw [if_pos a, if_pos (show 0 ≤ b + 1 ∧ b + 1 < 101 by omega), if_pos b1, if_pos (show 0 ≤ b ∧ b < 101 by omega)]
      generalize hB1 : zup4 (zup4 B 13 w 42 (b + 1) l) 13 w 46 b 6 = B1
      have n1 : ∀ c i k x, ¬ (c = 13 ∧ i = w ∧ k = 42 ∧ x = b + 1) → ¬ (c = 13 ∧ i = w ∧ k = 46 ∧ x = b) → B1 c i k x = B c i k x := fun c i k x a1 a2 => by rw [← hB1, zup4_v, if_neg (by first | decide | omega), zup4_v, if_neg (by first | decide | omega)]
      have v1 : B1 13 w 42 (b + 1) = l := by rw [← hB1, zup4_v, if_neg (by first | decide | omega), zup4_v, if_pos (by first | decide | omega)]
      have v2 : B1 13 w 42 b = s := by rw [n1 13 w 42 b (by first | decide | omega) (by first | decide | omega)]; exact h42
      have v3 : B1 13 w 46 b = 6 := by rw [← hB1, zup4_v, if_pos (by first | decide | omega)]
      have q1 : DQx w B0 B1 := fun c i k x nn => by rw [n1 c i k x (by first | decide | omega) (by first | decide | omega), q c i k x nn]
      have hR1 : RDW V w F B1 := RDW_f hR0 (fun _ _ _ => rfl) (fun k x _ h' => q1 13 w k x (by first | decide | omega))
      have hX1 : XS B1 := XS_f hX0 (fun i k x h1 h2 => q1 13 i k x (by first | decide | omega)) (fun x => q1 14 0 58 x (by first | decide | omega))
      have hP1 : ∀ t, 0 ≤ t → t < l → CP w B1 t (P t) ∧ 0 ≤ P t ∧ P t < T := fun t t0 t1 => by
        obtain ⟨k1, k2, k3⟩ := hC t t0 t1
        unfold CP at k1 ⊢
        rw [n1 13 w 43 t (by first | decide | omega) (by first | decide | omega), n1 13 w 44 t (by first | decide | omega) (by first | decide | omega)]
        exact ⟨k1, k2, k3⟩
      rw [v2]
      obtain ⟨F', B', y1, y2, y3, y4, y5⟩ := x_cl127 (K := K) (V := V) (T := T) (s := s) (e := l) (P := P) (F1 := F) (B1 := B1) (rec := rec) hK hR1 hX1 hT b1 v1 hc0.1 hc0.2.2 (fun t t0 t1 => hP1 t (by first | decide | omega) t1) (fun j j0 j1 => by
        have m := hI (j - s) (by first | decide | omega) (by first | decide | omega)
        have m' : P (s + (j - s)) < P (s + (j - s + 1)) := m
        rw [show s + (j - s) = j by omega, show s + (j - s + 1) = j + 1 by omega] at m'
        exact m') (l - s).toNat K s F B1 (fun _ _ _ _ => rfl) (fun _ _ _ _ _ => rfl) (Int.le_refl _) (by first | decide | omega) (by first | decide | omega)
      rw [y1]
      have ff : ∀ k x, ¬ (k = 45 ∧ s ≤ x ∧ x < l) → ¬ (k = 46 ∧ x = b) → ¬ (k = 42 ∧ x = b + 1) → B' 13 w k x = B 13 w k x := fun k x a1 a2 a3 => by rw [y3 13 w k x (by first | decide | omega), n1 13 w k x (by first | decide | omega) (by first | decide | omega)]
      have w1 : B' 13 w 42 (b + 1) = l := by rw [y3 13 w 42 (b + 1) (by first | decide | omega)]; exact v1
      have w2 : B' 13 w 42 b = s := by rw [y3 13 w 42 b (by first | decide | omega)]; exact v2
      have hB' : CXb V w T b P B0 B' := CXb_f hB h42 (fun _ _ => rfl) (fun t _ t1 => ff 42 t (by first | decide | omega) (by first | decide | omega) (by first | decide | omega)) (fun k j hk j1 => ff k j (by first | decide | omega) (by first | decide | omega) (by first | decide | omega)) (fun t t1 => ff 46 t (by first | decide | omega) (by first | decide | omega) (by first | decide | omega))
      have hP' : ∀ t, 0 ≤ t → t < l → CP w B' t (P t) ∧ 0 ≤ P t ∧ P t < T := fun t t0 t1 => by
        obtain ⟨k1, k2, k3⟩ := hC t t0 t1
        unfold CP at k1 ⊢
        rw [ff 43 t (by first | decide | omega) (by first | decide | omega) (by first | decide | omega), ff 44 t (by first | decide | omega) (by first | decide | omega) (by first | decide | omega)]
        exact ⟨k1, k2, k3⟩
      refine ⟨l, F', B', rfl, CG_t hg y2, fun c i k x nn => by rw [y3 c i k x (by first | decide | omega), q1 c i k x nn], ⟨(by first | decide | omega), ?_⟩, fun _ => w1, P, hP', fun _ => ?_, fun t t0 t1 => ?_⟩
      · have := cn_mono (q := qn V w B0 b u 0) (q' := qn V w B0 (b + 1) 0 0) 3200 (fun y _ hy => by
          simp only [qn, decide_eq_true_eq] at hy ⊢
          omega)
        omega
      · by_cases z : b = 0
        · rw [z] at w2
          rw [w2]
          exact s0 z
        · exact hB'.1 (by first | decide | omega)
      · by_cases z : t = b
        · subst z
          rw [w1, w2]
          refine ⟨⟨hc0, hI, RS_c hR (fun x => ?_), fun j j0 j1 => ?_, ?_⟩, Int.le_refl _⟩
          · rw [eu, Int.add_zero]
          · obtain ⟨k1, k2⟩ := hP' j (by first | decide | omega) j1
            exact ⟨k1, k2, WDx_f (fun k y hk => (q1 13 w k y (by first | decide | omega)).symm) (y4 j j0 j1)⟩
          · rw [y5, v3]
        · obtain ⟨k1, k2⟩ := hB'.2 t t0 (by first | decide | omega)
          refine ⟨k1, ?_⟩
          rw [w1]
          rw [w2] at k2
          omega
    · rw [if_neg a]
      have bv := rd_v hR0 u0 (show u < V by omega)
      obtain ⟨l', P', B', x1, x2⟩ := x_cl34 (K := K) (T := T) (s := s) (rec4 := rec) (rec := f_M_columns_22 rec K n) hK hR0 hT b1 u0 (show u < V by omega) K 0 l P B h (by decide) (by first | decide | omega) (by first | decide | omega)
      rw [x1]
      exact ih (u + 1) l' P' B' x2 (by first | decide | omega) (by first | decide | omega) (by first | decide | omega)
/-- a kept piece's columns, reference -/
def CXk (V w : Int) (F : zF) (B : zB) : Prop := ∃ P, CXb V w (barV (F 13 w 4) (F 13 w 5)) (F 13 w 7) P B B
theorem CXk_e {V w : Int} {F F' : zF} {B B' : zB} (h : CXk V w F B) (f : ∀ k, k = 4 ∨ k = 5 ∨ k = 7 → F' 13 w k = F 13 w k) (b : ∀ k x, k ≤ 46 → B' 13 w k x = B 13 w k x) : CXk V w F' B' := by
  obtain ⟨P, h1, h2⟩ := h
  refine ⟨P, ?_⟩
  rw [f 4 (by first | decide | omega), f 5 (by first | decide | omega), f 7 (by first | decide | omega)]
  refine ⟨fun z => by rw [b 42 0 (by decide)]; exact h1 z, fun t t0 t1 => ?_⟩
  obtain ⟨⟨k1, k2, k3, k4, k5⟩, k6⟩ := h2 t t0 t1
  rw [b 42 _ (by decide), b 42 _ (by decide), b 42 _ (by decide)]
  refine ⟨CXe_f ⟨k1, k2, RS_c k3 (fun x => (aNt_f (fun k z hk => b k z (by first | decide | omega))).symm), fun j j0 j1 => ?_, k5⟩ (fun _ _ _ => rfl) (fun k j hk _ _ => b k j (by first | decide | omega)) (b 46 t (by decide)), k6⟩
  obtain ⟨m1, m2, m3⟩ := k4 j j0 j1
  exact ⟨m1, m2, WDx_f (fun k z hk => b k z (by first | decide | omega)) m3⟩
theorem x_cl4 {K : Nat} {V w T : Int} {F0 : zF} {B0 : zB} (hK : 812851200 < K) (hR0 : RDW V w F0 B0) (hX0 : XS B0) (hT : T = barV (F0 13 w 4) (F0 13 w 5)) : ∀ (n : Nat) (b l : Int) (F : zF) (B : zB), CX2 V w T b l F0 F B0 B → (b = 0 → l = 0) → 0 ≤ b → b ≤ F0 13 w 7 → F0 13 w 7 - b < n → ∃ F' B', f_M_columns_4 K n b l w F B = some (0, F', B') ∧ CG F0 F' ∧ DQx w B0 B' ∧ CXk V w F0 B' := by
  have b0 := rd_0 hR0
  intro n
  induction n with
  | zero => intro b l F B _ _ _ _ hn; exfalso; omega
  | succ n ih =>
    intro b l F B h l00 i0 i1 hn
    obtain ⟨hg, q, hl, h42, P, hP, hB⟩ := h
    have cl := cn_le (qn V w B0 b 0 0) 3200
    have e7 := hg 13 w 7 (by first | decide | omega)
    rw [f_M_columns_4, if_pos b0.1, if_pos (show r32 b by unfold r32; omega), if_pos (show r32 (F 13 w 7) by unfold r32; omega)]
    by_cases a : F 13 w 7 ≤ b
    · have eb : b = F0 13 w 7 := by omega
      rw [if_pos a]
      refine ⟨F, B, rfl, hg, q, P, ?_⟩
      rw [← hT, ← eb]
      refine ⟨hB.1, fun t t0 t1 => ?_⟩
      obtain ⟨⟨k1, k2, k3, k4, k5⟩, k6⟩ := hB.2 t t0 t1
      refine ⟨⟨k1, k2, RS_c k3 (fun x => (aNt_f (fun k z hk => q 13 w k z (by first | decide | omega))).symm), fun j j0 j1 => ?_, k5⟩, k6⟩
      obtain ⟨m1, m2, m3⟩ := k4 j j0 j1
      exact ⟨m1, m2, WDx_f (fun k z hk => q 13 w k z (by first | decide | omega)) m3⟩
    · rw [if_neg a, if_pos (show 0 ≤ b ∧ b < 101 by omega)]
      have hRF : RDW V w F B0 := RDW_g hR0 hg
      have un : ∀ c i k x, ¬ (c = 13 ∧ i = w ∧ k = 42 ∧ x = b) → (zup4 B 13 w 42 b l) c i k x = B c i k x := fun c i k x nn => by rw [zup4_v, if_neg nn]
      have uv : (zup4 B 13 w 42 b l) 13 w 42 b = l := by rw [zup4_v, if_pos (by first | decide | omega)]
      have u42 : ∀ t, 0 ≤ t → t ≤ b → (0 < b) → (zup4 B 13 w 42 b l) 13 w 42 t = B 13 w 42 t := fun t t0 t1 bp => by
        by_cases z : t = b
        · rw [z, uv, h42 bp]
        · exact un 13 w 42 t (by first | decide | omega)
      have hB4 : CXb V w T b P B0 (zup4 B 13 w 42 b l) := by
        by_cases z : 0 < b
        · exact CXb_f (s := l) hB (h42 z) (fun _ _ => rfl) (fun t t0 t1 => u42 t t0 t1 z) (fun k j _ _ => un 13 w k j (by first | decide | omega)) (fun t _ => un 13 w 46 t (by first | decide | omega))
        · exact ⟨fun z' => absurd z' z, fun t t0 t1 => (by first | decide | omega)⟩
      obtain ⟨l', F', B', x1, x2⟩ := x_cl22 (K := K) (T := T) (s := l) (F0 := F0) (rec := f_M_columns_4 K n) hK hRF hX0 hg (by rw [hg 13 w 4 (by omega), hg 13 w 5 (by omega)]; exact hT) (show 0 ≤ b ∧ b < 100 by omega) l00 K 0 l P (zup4 B 13 w 42 b l) ⟨fun c i k x nn => by rw [un c i k x (by omega), q c i k x nn], uv, ⟨by omega, fun j j0 j1 => by
        obtain ⟨k1, k2⟩ := hP j j0 j1
        unfold CP at k1 ⊢
        rw [un 13 w 43 j (by first | decide | omega), un 13 w 44 j (by first | decide | omega)]
        exact ⟨k1, k2⟩⟩, hl.2, ⟨fun t t0 t1 => (by first | decide | omega), fun x => ⟨fun hy => by
        obtain ⟨t, t0, t1, _⟩ := hy
        omega, fun hy => by
        obtain ⟨x0, y, u', a0, a1, a2, a3, a4, a5, a6, a7⟩ := hy
        omega⟩⟩, hB4⟩ (by decide) (by first | decide | omega) (by first | decide | omega)
      rw [x1]
      exact ih (b + 1) l' F' B' x2 (fun z => (by first | decide | omega)) (by first | decide | omega) (by first | decide | omega) (by first | decide | omega)
theorem x_columns {K : Nat} {V w : Int} {F : zF} {B : zB} (hK : 812851200 < K) (hR : RDW V w F B) (hX : XS B) : ∃ F' B', f_M_columns K w F B = some (0, F', B') ∧ CG F F' ∧ CXk V w F B' := by
  have b0 := rd_0 hR
  unfold f_M_columns
  obtain ⟨F', B', x1, x2, _, x4⟩ := x_cl4 (K := K) hK hR hX rfl K 0 0 F B ⟨fun _ _ _ _ => rfl, fun _ _ _ _ _ => rfl, ⟨by decide, (by first | decide | omega)⟩, fun z => absurd z (by decide), fun _ => 0, fun j j0 j1 => (by first | decide | omega), fun z => absurd z (by decide), fun t t0 t1 => (by first | decide | omega)⟩ (fun _ => rfl) (by decide) (by first | decide | omega) (by first | decide | omega)
  exact ⟨F', B', x1, x2, x4⟩
end
end
section
section
/-! ===== faults between voices, reference ===== -/
theorem s_tone {K : Nat} {s a : Int} {F : zF} {B : zB} (s0 : 0 ≤ s) (s1 : s ≤ 62) (a0 : -2 ≤ a) (a1 : a ≤ 2) : zS (f_M_tone K s a F B) (fun r F' B' => F' = F ∧ B' = B ∧ 9 ≤ r ∧ r ≤ 130) := by
  rw [L_tone s0 (by first | decide | omega)]
  exact zS_s ⟨rfl, rfl, by split <;> omega, by split <;> omega⟩
theorem s_mod {K : Nat} {a b : Int} {F : zF} {B : zB} (ha : r32 a) (hb : 0 < b) (hb2 : b ≤ 1000) : zS (f_M_mod K a b F B) (fun r F' B' => F' = F ∧ B' = B ∧ 0 ≤ r ∧ r < b) := by
  rw [L_mod ha hb (by unfold r32; omega)]
  exact zS_s ⟨rfl, rfl, Int.emod_nonneg _ (by first | decide | omega), Int.emod_lt_of_pos _ hb⟩
/-- a slot that holds a pitch, or none -/
def PV (w : Int) (B : zB) (r : Int) : Prop := -1 ≤ r ∧ r < 24000 ∧ (0 ≤ r → (0 ≤ B 13 w 28 r ∧ B 13 w 28 r ≤ 62) ∧ (-2 ≤ B 13 w 29 r ∧ B 13 w 29 r ≤ 2))
theorem s_lnOf7 {K : Nat} {V w u : Int} {F : zF} {B : zB} (hR : RDW V w F B) (u0 : 0 ≤ u) (u1 : u < V) {x : Int} (x0 : 1000 * u ≤ x) (x1 : x < 1000 * u + B 13 w 12 u) : ∀ (n : Nat) (l m : Int), 6 * x ≤ l → l ≤ 6 * x + B 13 w 21 x → (m = -1 ∨ (6 * x ≤ m ∧ m < l)) → 6 * x + B 13 w 21 x - l < n → zS (f_M_lineOf_7 K n l m w x F B) (fun r F' B' => F' = F ∧ B' = B ∧ (r = -1 ∨ (6 * x ≤ r ∧ r < 6 * x + B 13 w 21 x))) := by
  intro n
  induction n with
  | zero => intro l m l0 l1 hm hk; exfalso; omega
  | succ n ih =>
    intro l m l0 l1 hm hk
    have b0 := rd_0 hR
    have bv := rd_v hR u0 u1
    have be := rd_e hR u0 u1 x0 x1
    rw [f_M_lineOf_7]
    refine zS_g (by first | decide | omega) ?_ -- 1
    refine zS_g (by first | decide | omega) ?_ -- 2
    refine zS_g (by unfold r32; omega) ?_ -- 3
    refine zS_g (by unfold r32; omega) ?_ -- 4
    refine zS_i (fun h1 => ?_) (fun h1 => ?_) -- 5: (((6 * x) + (B 13 w 21 x)) ≤ l)
    · exact zS_s ⟨rfl, rfl, (by first | decide | omega)⟩
    · refine zS_g (by unfold r32; omega) ?_ -- 7
      refine zS_i (fun h2 => ?_) (fun h2 => ?_) -- 8: (m < 0)
      · unfold f_M_lineOf_59
        unfold f_M_lineOf_61
        exact ih _ _ (by first | decide | omega) (by first | decide | omega) (by first | decide | omega) (by first | decide | omega) -- 11 f_M_lineOf_7
      · refine zS_g (by first | decide | omega) ?_ -- 12
        have a3 := rd_p (u := u) (x := x) (k := l - 6 * x) hR u0 u1 x0 x1 (by first | decide | omega) (by first | decide | omega)
        have a3e : 6 * x + (l - 6 * x) = l := by omega
        rw [a3e] at a3
        refine zS_b (s_tone (K := K) (s := (B 13 w 28 l)) (a := (B 13 w 29 l)) (by first | decide | omega) (by first | decide | omega) (by first | decide | omega) (by first | decide | omega)) ?_
        rintro o5 F B ⟨rfl, rfl, q4⟩
        refine zS_g (by first | decide | omega) ?_ -- 14
        have a7 := rd_p (u := u) (x := x) (k := m - 6 * x) hR u0 u1 x0 x1 (by first | decide | omega) (by first | decide | omega)
        have a7e : 6 * x + (m - 6 * x) = m := by omega
        rw [a7e] at a7
        refine zS_b (s_tone (K := K) (s := (B 13 w 28 m)) (a := (B 13 w 29 m)) (by first | decide | omega) (by first | decide | omega) (by first | decide | omega) (by first | decide | omega)) ?_
        rintro o9 F B ⟨rfl, rfl, q8⟩
        refine zS_g (by unfold r32; omega) ?_ -- 16
        refine zS_g (by unfold r32; omega) ?_ -- 17
        refine zS_i (fun h11 => ?_) (fun h11 => ?_) -- 18: (o5 < o9)
        · unfold f_M_lineOf_61
          exact ih _ _ (by first | decide | omega) (by first | decide | omega) (by first | decide | omega) (by first | decide | omega) -- 20 f_M_lineOf_7
        · unfold f_M_lineOf_59
          unfold f_M_lineOf_61
          exact ih _ _ (by first | decide | omega) (by first | decide | omega) (by first | decide | omega) (by first | decide | omega) -- 23 f_M_lineOf_7
theorem s_lineOf {K : Nat} {V w u : Int} {F : zF} {B : zB} (hR : RDW V w F B) (u0 : 0 ≤ u) (u1 : u < V) {x : Int} (x0 : 1000 * u ≤ x) (x1 : x < 1000 * u + B 13 w 12 u) (hK : 1000 ≤ K) : zS (f_M_lineOf K w x F B) (fun r F' B' => F' = F ∧ B' = B ∧ PV w B r) := by
  have be := rd_e hR u0 u1 x0 x1
  have b0 := rd_0 hR
  have bv := rd_v hR u0 u1
  refine zS_m (s_lnOf7 hR u0 u1 x0 x1 K (6 * x) (-1) (Int.le_refl _) (by first | decide | omega) (Or.inl rfl) (by first | decide | omega)) ?_
  rintro r F' B' ⟨e1, e2, h⟩
  refine ⟨e1, e2, (by first | decide | omega), (by first | decide | omega), fun r0 => ?_⟩
  have := rd_p (x := x) (k := r - 6 * x) hR u0 u1 x0 x1 (by first | decide | omega) (by first | decide | omega)
  rw [show 6 * x + (r - 6 * x) = r by omega] at this
  exact this
/-- moments that stand -/
def MW5 (V w : Int) (F : zF) (B : zB) : Prop := (0 ≤ F 13 w 72 ∧ F 13 w 72 ≤ 800) ∧ (∀ x, 0 ≤ x → x < F 13 w 72 → MP w B x) ∧ ∀ u t, 0 ≤ u → u < V → 0 ≤ t → t < F 13 w 72 → 0 ≤ B 13 w 75 (4 * t + u) ∧ B 13 w 75 (4 * t + u) < B 13 w 12 u
theorem s_lineAt {K : Nat} {V w : Int} {F : zF} {B : zB} (hR : RDW V w F B) (hM : MW5 V w F B) (hK : 1000 ≤ K) {t u : Int} (t0 : 0 ≤ t) (t1 : t < F 13 w 72) (u0 : 0 ≤ u) (u1 : u < V) : zS (f_M_lineAt K w t u F B) (fun r F' B' => F' = F ∧ B' = B ∧ PV w B r) := by
  have b0 := rd_0 hR
  have m0 := hM.1
  have bv := rd_v hR u0 u1
  unfold f_M_lineAt
  refine zS_g (by first | decide | omega) ?_ -- 1
  refine zS_g (by first | decide | omega) ?_ -- 2
  have a1 := hM.2.2 u t (by first | decide | omega) (by first | decide | omega) (by first | decide | omega) (by first | decide | omega)
  refine zS_b (s_lineOf (K := K) (u := u) (x := ((1000 * u) + (B 13 w 75 ((4 * t) + u)))) hR (by first | decide | omega) (by first | decide | omega) (by first | decide | omega) (by first | decide | omega) hK) ?_
  rintro o3 F B ⟨rfl, rfl, q2⟩
  exact zS_s ⟨rfl, rfl, by assumption⟩
theorem s_beginsAt {K : Nat} {V w : Int} {F : zF} {B : zB} (hR : RDW V w F B) (hM : MW5 V w F B) (hK : 1000 ≤ K) {t u : Int} (t0 : 0 ≤ t) (t1 : t < F 13 w 72) (u0 : 0 ≤ u) (u1 : u < V) (t2 : 1 ≤ t) : zS (f_M_beginsAt K w t u F B) (fun r F' B' => F' = F ∧ B' = B ∧ (r = 0 ∨ r = 1)) := by
  have b0 := rd_0 hR
  have m0 := hM.1
  have bv := rd_v hR u0 u1
  unfold f_M_beginsAt
  refine zS_g (by first | decide | omega) ?_ -- 1
  refine zS_g (by first | decide | omega) ?_ -- 2
  refine zS_g (by first | decide | omega) ?_ -- 3
  have a1 := hM.2.2 u t (by first | decide | omega) (by first | decide | omega) (by first | decide | omega) (by first | decide | omega)
  refine zS_g (by unfold r32; omega) ?_ -- 4
  have a2 := hM.2.2 u (t - 1) (by first | decide | omega) (by first | decide | omega) (by first | decide | omega) (by first | decide | omega)
  refine zS_g (by unfold r32; omega) ?_ -- 5
  refine zS_i (fun h3 => ?_) (fun h3 => ?_) -- 6: ((B 13 w 75 ((4 * t) + u)) = (B 13 w 75 ((4 * (t - 1)) + u)))
  · unfold f_M_beginsAt_30
    refine zS_g (by first | decide | omega) ?_ -- 8
    exact zS_s ⟨rfl, rfl, (by first | decide | omega)⟩
  · unfold f_M_beginsAt_30
    refine zS_g (by first | decide | omega) ?_ -- 11
    exact zS_s ⟨rfl, rfl, (by first | decide | omega)⟩
theorem s_toneAt {K : Nat} {w z : Int} {F : zF} {B : zB} (w0 : 0 ≤ w ∧ w < 3) (hz : PV w B z) (z0 : 0 ≤ z) : zS (f_M_toneAt K w z F B) (fun r F' B' => F' = F ∧ B' = B ∧ (9 ≤ r ∧ r ≤ 130)) := by
  obtain ⟨z1, z2, z3⟩ := hz
  unfold f_M_toneAt
  refine zS_g (by first | decide | omega) ?_ -- 1
  refine zS_g (by first | decide | omega) ?_ -- 2
  refine zS_b (s_tone (K := K) (s := (B 13 w 28 z)) (a := (B 13 w 29 z)) (by first | decide | omega) (by first | decide | omega) (by first | decide | omega) (by first | decide | omega)) ?_
  rintro o2 F B ⟨rfl, rfl, q1⟩
  exact zS_s ⟨rfl, rfl, (by first | decide | omega)⟩
theorem s_isPlainStep {K : Nat} {a b : Int} {F : zF} {B : zB} (ra : r32 a) (rb : r32 b) : zS (f_M_isPlainStep K a b F B) (fun r F' B' => F' = F ∧ B' = B ∧ (r = 0 ∨ r = 1)) := by
  unfold f_M_isPlainStep
  refine zS_g (by unfold r32; omega) ?_ -- 1
  refine zS_i (fun h1 => ?_) (fun h1 => ?_) -- 2: (a = 0)
  · refine zS_g (by unfold r32; omega) ?_ -- 3
    refine zS_i (fun h2 => ?_) (fun h2 => ?_) -- 4: (b = 0)
    · unfold f_M_isPlainStep_13
      refine zS_g (by first | decide | omega) ?_ -- 6
      exact zS_s ⟨rfl, rfl, (by first | decide | omega)⟩
    · unfold f_M_isPlainStep_13
      refine zS_g (by first | decide | omega) ?_ -- 9
      exact zS_s ⟨rfl, rfl, (by first | decide | omega)⟩
  · refine zS_i (fun h3 => ?_) (fun h3 => ?_) -- 11: (a = 1)
    · refine zS_g (by unfold r32; omega) ?_ -- 12
      refine zS_i (fun h4 => ?_) (fun h4 => ?_) -- 13: (b = 1)
      · unfold f_M_isPlainStep_29
        unfold f_M_isPlainStep_34
        refine zS_g (by first | decide | omega) ?_ -- 16
        exact zS_s ⟨rfl, rfl, (by first | decide | omega)⟩
      · refine zS_i (fun h5 => ?_) (fun h5 => ?_) -- 18: (b = 2)
        · unfold f_M_isPlainStep_29
          unfold f_M_isPlainStep_34
          refine zS_g (by first | decide | omega) ?_ -- 21
          exact zS_s ⟨rfl, rfl, (by first | decide | omega)⟩
        · unfold f_M_isPlainStep_34
          refine zS_g (by first | decide | omega) ?_ -- 24
          exact zS_s ⟨rfl, rfl, (by first | decide | omega)⟩
    · refine zS_i (fun h6 => ?_) (fun h6 => ?_) -- 26: (a = 2)
      · refine zS_g (by unfold r32; omega) ?_ -- 27
        refine zS_i (fun h7 => ?_) (fun h7 => ?_) -- 28: (b = 3)
        · unfold f_M_isPlainStep_50
          unfold f_M_isPlainStep_55
          refine zS_g (by first | decide | omega) ?_ -- 31
          exact zS_s ⟨rfl, rfl, (by first | decide | omega)⟩
        · refine zS_i (fun h8 => ?_) (fun h8 => ?_) -- 33: (b = 4)
          · unfold f_M_isPlainStep_50
            unfold f_M_isPlainStep_55
            refine zS_g (by first | decide | omega) ?_ -- 36
            exact zS_s ⟨rfl, rfl, (by first | decide | omega)⟩
          · unfold f_M_isPlainStep_55
            refine zS_g (by first | decide | omega) ?_ -- 39
            exact zS_s ⟨rfl, rfl, (by first | decide | omega)⟩
      · refine zS_i (fun h9 => ?_) (fun h9 => ?_) -- 41: (a = 3)
        · refine zS_g (by unfold r32; omega) ?_ -- 42
          refine zS_i (fun h10 => ?_) (fun h10 => ?_) -- 43: (b = 5)
          · unfold f_M_isPlainStep_71
            refine zS_g (by first | decide | omega) ?_ -- 45
            exact zS_s ⟨rfl, rfl, (by first | decide | omega)⟩
          · unfold f_M_isPlainStep_71
            refine zS_g (by first | decide | omega) ?_ -- 48
            exact zS_s ⟨rfl, rfl, (by first | decide | omega)⟩
        · refine zS_i (fun h11 => ?_) (fun h11 => ?_) -- 50: (a = 4)
          · refine zS_g (by unfold r32; omega) ?_ -- 51
            refine zS_i (fun h12 => ?_) (fun h12 => ?_) -- 52: (b = 7)
            · unfold f_M_isPlainStep_88
              refine zS_g (by first | decide | omega) ?_ -- 54
              exact zS_s ⟨rfl, rfl, (by first | decide | omega)⟩
            · unfold f_M_isPlainStep_88
              refine zS_g (by first | decide | omega) ?_ -- 57
              exact zS_s ⟨rfl, rfl, (by first | decide | omega)⟩
          · refine zS_i (fun h13 => ?_) (fun h13 => ?_) -- 59: (a = 5)
            · refine zS_g (by unfold r32; omega) ?_ -- 60
              refine zS_i (fun h14 => ?_) (fun h14 => ?_) -- 61: (b = 8)
              · unfold f_M_isPlainStep_106
                unfold f_M_isPlainStep_131
                refine zS_g (by first | decide | omega) ?_ -- 64
                exact zS_s ⟨rfl, rfl, (by first | decide | omega)⟩
              · refine zS_i (fun h15 => ?_) (fun h15 => ?_) -- 66: (b = 9)
                · unfold f_M_isPlainStep_106
                  unfold f_M_isPlainStep_131
                  refine zS_g (by first | decide | omega) ?_ -- 69
                  exact zS_s ⟨rfl, rfl, (by first | decide | omega)⟩
                · unfold f_M_isPlainStep_131
                  refine zS_g (by first | decide | omega) ?_ -- 72
                  exact zS_s ⟨rfl, rfl, (by first | decide | omega)⟩
            · refine zS_g (by unfold r32; omega) ?_ -- 74
              refine zS_i (fun h16 => ?_) (fun h16 => ?_) -- 75: (b = 10)
              · unfold f_M_isPlainStep_126
                unfold f_M_isPlainStep_131
                refine zS_g (by first | decide | omega) ?_ -- 78
                exact zS_s ⟨rfl, rfl, (by first | decide | omega)⟩
              · refine zS_i (fun h17 => ?_) (fun h17 => ?_) -- 80: (b = 11)
                · unfold f_M_isPlainStep_126
                  unfold f_M_isPlainStep_131
                  refine zS_g (by first | decide | omega) ?_ -- 83
                  exact zS_s ⟨rfl, rfl, (by first | decide | omega)⟩
                · unfold f_M_isPlainStep_131
                  refine zS_g (by first | decide | omega) ?_ -- 86
                  exact zS_s ⟨rfl, rfl, (by first | decide | omega)⟩
theorem s_isOver {K : Nat} {w y z : Int} {F : zF} {B : zB} (b0 : (0 ≤ w ∧ w < 3) ∧ True) (vy : PV w B y) (vz : PV w B z) : zS (f_M_isOver K w y z F B) (fun r F' B' => F' = F ∧ B' = B ∧ (r = 0 ∨ r = 1)) := by
  have vy1 := vy.1
  have vy2 := vy.2.1
  have vz1 := vz.1
  have vz2 := vz.2.1
  unfold f_M_isOver
  refine zS_g (by unfold r32; omega) ?_ -- 1
  refine zS_i (fun h1 => ?_) (fun h1 => ?_) -- 2: (y < 0)
  · unfold f_M_isOver_25
    unfold f_M_isOver_26
    refine zS_g (by first | decide | omega) ?_ -- 5
    exact zS_s ⟨rfl, rfl, (by first | decide | omega)⟩
  · refine zS_g (by unfold r32; omega) ?_ -- 7
    refine zS_i (fun h2 => ?_) (fun h2 => ?_) -- 8: (z < 0)
    · unfold f_M_isOver_25
      unfold f_M_isOver_26
      refine zS_g (by first | decide | omega) ?_ -- 11
      exact zS_s ⟨rfl, rfl, (by first | decide | omega)⟩
    · refine zS_b (s_toneAt (K := K) b0.1 vz (by first | decide | omega)) ?_
      rintro o4 F B ⟨rfl, rfl, q3⟩
      refine zS_b (s_toneAt (K := K) b0.1 vy (by first | decide | omega)) ?_
      rintro o7 F B ⟨rfl, rfl, q6⟩
      refine zS_g (by unfold r32; omega) ?_ -- 15
      refine zS_g (by unfold r32; omega) ?_ -- 16
      refine zS_i (fun h9 => ?_) (fun h9 => ?_) -- 17: (o4 ≤ o7)
      · unfold f_M_isOver_25
        unfold f_M_isOver_26
        refine zS_g (by first | decide | omega) ?_ -- 20
        exact zS_s ⟨rfl, rfl, (by first | decide | omega)⟩
      · unfold f_M_isOver_26
        refine zS_g (by first | decide | omega) ?_ -- 23
        exact zS_s ⟨rfl, rfl, (by first | decide | omega)⟩
theorem s_isAlone {K : Nat} {V w : Int} {F : zF} {B : zB} (hR : RDW V w F B) (hM : MW5 V w F B) (hK : 1000 ≤ K) {t : Int} (t0 : 1 ≤ t) (t1 : t < F 13 w 72) {u k : Int} (u0 : 0 ≤ u) (u1 : u < V) (rk : r32 k) : zS (f_M_isAlone K w t k u F B) (fun r F' B' => F' = F ∧ B' = B ∧ (r = 0 ∨ r = 1)) := by
  have b0 := rd_0 hR
  have m0 := hM.1
  unfold f_M_isAlone
  refine zS_b (s_lineAt (K := K) (t := t) (u := u) hR hM hK (by first | decide | omega) (by first | decide | omega) (by first | decide | omega) (by first | decide | omega)) ?_
  rintro o2 F B ⟨rfl, rfl, v1⟩
  have vo2 := v1
  obtain ⟨v1a, v1b, v1c⟩ := v1
  refine zS_b (s_lineAt (K := K) (t := (t - 1)) (u := u) hR hM hK (by first | decide | omega) (by first | decide | omega) (by first | decide | omega) (by first | decide | omega)) ?_
  rintro o5 F B ⟨rfl, rfl, v4⟩
  have vo5 := v4
  obtain ⟨v4a, v4b, v4c⟩ := v4
  refine zS_g (by unfold r32; omega) ?_ -- 3
  refine zS_i (fun h7 => ?_) (fun h7 => ?_) -- 4: (o2 < 0)
  · unfold f_M_isAlone_37
    exact zS_s ⟨rfl, rfl, (by first | decide | omega)⟩
  · refine zS_g (by unfold r32; omega) ?_ -- 7
    refine zS_i (fun h8 => ?_) (fun h8 => ?_) -- 8: (o5 < 0)
    · unfold f_M_isAlone_37
      exact zS_s ⟨rfl, rfl, (by first | decide | omega)⟩
    · refine zS_b (s_beginsAt (K := K) (t := t) (u := u) hR hM hK (by first | decide | omega) (by first | decide | omega) (by first | decide | omega) (by first | decide | omega) (by first | decide | omega)) ?_
      rintro o10 F B ⟨rfl, rfl, q9⟩
      refine zS_g (by unfold r32; omega) ?_ -- 12
      refine zS_i (fun h12 => ?_) (fun h12 => ?_) -- 13: (o10 = 0)
      · unfold f_M_isAlone_37
        exact zS_s ⟨rfl, rfl, (by first | decide | omega)⟩
      · refine zS_g (by first | decide | omega) ?_ -- 16
        refine zS_g (by first | decide | omega) ?_ -- 17
        refine zS_g (by first | decide | omega) ?_ -- 18
        refine zS_g (by unfold r32; omega) ?_ -- 19
        refine zS_i (fun h13 => ?_) (fun h13 => ?_) -- 20: (0 ≤ ((B 13 w 28 o2) - (B 13 w 28 o5)))
        · unfold f_M_isAlone_69
          refine zS_g (by unfold r32; omega) ?_ -- 22
          refine zS_i (fun h14 => ?_) (fun h14 => ?_) -- 23: (k = 5)
          · refine zS_g (by unfold r32; omega) ?_ -- 24
            refine zS_i (fun h15 => ?_) (fun h15 => ?_) -- 25: (((B 13 w 28 o2) - (B 13 w 28 o5)) ≤ 7)
            · unfold f_M_isAlone_88
              refine zS_g (by first | decide | omega) ?_ -- 27
              exact zS_s ⟨rfl, rfl, (by first | decide | omega)⟩
            · unfold f_M_isAlone_88
              refine zS_g (by first | decide | omega) ?_ -- 30
              exact zS_s ⟨rfl, rfl, (by first | decide | omega)⟩
          · refine zS_b (s_toneAt (K := K) b0.1 vo2 (by first | decide | omega)) ?_
            rintro o17 F B ⟨rfl, rfl, q16⟩
            refine zS_b (s_toneAt (K := K) b0.1 vo5 (by first | decide | omega)) ?_
            rintro o20 F B ⟨rfl, rfl, q19⟩
            refine zS_g (by unfold r32; omega) ?_ -- 34
            refine zS_i (fun h22 => ?_) (fun h22 => ?_) -- 35: (((B 13 w 28 o2) - (B 13 w 28 o5)) < 0)
            · unfold f_M_isAlone_119
              unfold f_M_isAlone_127
              refine zS_b (s_mod (K := K) (a := (-(o17 - o20))) (b := 12) (by unfold r32; omega) (by decide) (by decide)) ?_
              rintro o24 F B ⟨rfl, rfl, q23⟩
              have z26 := zrm_R ((B 13 w 28 o2) - (B 13 w 28 o5)) 7
              refine zS_b (s_isPlainStep (K := K) (a := (zrm ((B 13 w 28 o2) - (B 13 w 28 o5)) 7)) (b := o24) (by first | exact zrm_R _ _ | (unfold r32; omega)) (by unfold r32; omega)) ?_
              rintro o28 F B ⟨rfl, rfl, q27⟩
              refine zS_g (by unfold r32; omega) ?_ -- 40
              refine zS_i (fun h30 => ?_) (fun h30 => ?_) -- 41: (o28 = 0)
              · unfold f_M_isAlone_152
                refine zS_g (by first | decide | omega) ?_ -- 43
                exact zS_s ⟨rfl, rfl, (by first | decide | omega)⟩
              · unfold f_M_isAlone_152
                refine zS_g (by first | decide | omega) ?_ -- 46
                exact zS_s ⟨rfl, rfl, (by first | decide | omega)⟩
            · refine zS_i (fun h31 => ?_) (fun h31 => ?_) -- 48: (((B 13 w 28 o2) - (B 13 w 28 o5)) = 0)
              · refine zS_g (by unfold r32; omega) ?_ -- 49
                refine zS_i (fun h32 => ?_) (fun h32 => ?_) -- 50: (0 ≤ (o17 - o20))
                · unfold f_M_isAlone_125
                  unfold f_M_isAlone_127
                  refine zS_b (s_mod (K := K) (a := (o17 - o20)) (b := 12) (by unfold r32; omega) (by decide) (by decide)) ?_
                  rintro o34 F B ⟨rfl, rfl, q33⟩
                  have z36 := zrm_R ((B 13 w 28 o2) - (B 13 w 28 o5)) 7
                  refine zS_b (s_isPlainStep (K := K) (a := (zrm ((B 13 w 28 o2) - (B 13 w 28 o5)) 7)) (b := o34) (by first | exact zrm_R _ _ | (unfold r32; omega)) (by unfold r32; omega)) ?_
                  rintro o38 F B ⟨rfl, rfl, q37⟩
                  refine zS_g (by unfold r32; omega) ?_ -- 55
                  refine zS_i (fun h40 => ?_) (fun h40 => ?_) -- 56: (o38 = 0)
                  · unfold f_M_isAlone_152
                    refine zS_g (by first | decide | omega) ?_ -- 58
                    exact zS_s ⟨rfl, rfl, (by first | decide | omega)⟩
                  · unfold f_M_isAlone_152
                    refine zS_g (by first | decide | omega) ?_ -- 61
                    exact zS_s ⟨rfl, rfl, (by first | decide | omega)⟩
                · unfold f_M_isAlone_119
                  unfold f_M_isAlone_127
                  refine zS_b (s_mod (K := K) (a := (-(o17 - o20))) (b := 12) (by unfold r32; omega) (by decide) (by decide)) ?_
                  rintro o42 F B ⟨rfl, rfl, q41⟩
                  have z44 := zrm_R ((B 13 w 28 o2) - (B 13 w 28 o5)) 7
                  refine zS_b (s_isPlainStep (K := K) (a := (zrm ((B 13 w 28 o2) - (B 13 w 28 o5)) 7)) (b := o42) (by first | exact zrm_R _ _ | (unfold r32; omega)) (by unfold r32; omega)) ?_
                  rintro o46 F B ⟨rfl, rfl, q45⟩
                  refine zS_g (by unfold r32; omega) ?_ -- 67
                  refine zS_i (fun h48 => ?_) (fun h48 => ?_) -- 68: (o46 = 0)
                  · unfold f_M_isAlone_152
                    refine zS_g (by first | decide | omega) ?_ -- 70
                    exact zS_s ⟨rfl, rfl, (by first | decide | omega)⟩
                  · unfold f_M_isAlone_152
                    refine zS_g (by first | decide | omega) ?_ -- 73
                    exact zS_s ⟨rfl, rfl, (by first | decide | omega)⟩
              · unfold f_M_isAlone_125
                unfold f_M_isAlone_127
                refine zS_b (s_mod (K := K) (a := (o17 - o20)) (b := 12) (by unfold r32; omega) (by decide) (by decide)) ?_
                rintro o50 F B ⟨rfl, rfl, q49⟩
                have z52 := zrm_R ((B 13 w 28 o2) - (B 13 w 28 o5)) 7
                refine zS_b (s_isPlainStep (K := K) (a := (zrm ((B 13 w 28 o2) - (B 13 w 28 o5)) 7)) (b := o50) (by first | exact zrm_R _ _ | (unfold r32; omega)) (by unfold r32; omega)) ?_
                rintro o54 F B ⟨rfl, rfl, q53⟩
                refine zS_g (by unfold r32; omega) ?_ -- 79
                refine zS_i (fun h56 => ?_) (fun h56 => ?_) -- 80: (o54 = 0)
                · unfold f_M_isAlone_152
                  refine zS_g (by first | decide | omega) ?_ -- 82
                  exact zS_s ⟨rfl, rfl, (by first | decide | omega)⟩
                · unfold f_M_isAlone_152
                  refine zS_g (by first | decide | omega) ?_ -- 85
                  exact zS_s ⟨rfl, rfl, (by first | decide | omega)⟩
        · unfold f_M_isAlone_69
          refine zS_g (by unfold r32; omega) ?_ -- 88
          refine zS_i (fun h57 => ?_) (fun h57 => ?_) -- 89: (k = 5)
          · refine zS_g (by unfold r32; omega) ?_ -- 90
            refine zS_i (fun h58 => ?_) (fun h58 => ?_) -- 91: ((-((B 13 w 28 o2) - (B 13 w 28 o5))) ≤ 7)
            · unfold f_M_isAlone_88
              refine zS_g (by first | decide | omega) ?_ -- 93
              exact zS_s ⟨rfl, rfl, (by first | decide | omega)⟩
            · unfold f_M_isAlone_88
              refine zS_g (by first | decide | omega) ?_ -- 96
              exact zS_s ⟨rfl, rfl, (by first | decide | omega)⟩
          · refine zS_b (s_toneAt (K := K) b0.1 vo2 (by first | decide | omega)) ?_
            rintro o60 F B ⟨rfl, rfl, q59⟩
            refine zS_b (s_toneAt (K := K) b0.1 vo5 (by first | decide | omega)) ?_
            rintro o63 F B ⟨rfl, rfl, q62⟩
            refine zS_g (by unfold r32; omega) ?_ -- 100
            refine zS_i (fun h65 => ?_) (fun h65 => ?_) -- 101: (((B 13 w 28 o2) - (B 13 w 28 o5)) < 0)
            · unfold f_M_isAlone_119
              unfold f_M_isAlone_127
              refine zS_b (s_mod (K := K) (a := (-(o60 - o63))) (b := 12) (by unfold r32; omega) (by decide) (by decide)) ?_
              rintro o67 F B ⟨rfl, rfl, q66⟩
              have z69 := zrm_R (-((B 13 w 28 o2) - (B 13 w 28 o5))) 7
              refine zS_b (s_isPlainStep (K := K) (a := (zrm (-((B 13 w 28 o2) - (B 13 w 28 o5))) 7)) (b := o67) (by first | exact zrm_R _ _ | (unfold r32; omega)) (by unfold r32; omega)) ?_
              rintro o71 F B ⟨rfl, rfl, q70⟩
              refine zS_g (by unfold r32; omega) ?_ -- 106
              refine zS_i (fun h73 => ?_) (fun h73 => ?_) -- 107: (o71 = 0)
              · unfold f_M_isAlone_152
                refine zS_g (by first | decide | omega) ?_ -- 109
                exact zS_s ⟨rfl, rfl, (by first | decide | omega)⟩
              · unfold f_M_isAlone_152
                refine zS_g (by first | decide | omega) ?_ -- 112
                exact zS_s ⟨rfl, rfl, (by first | decide | omega)⟩
            · refine zS_i (fun h74 => ?_) (fun h74 => ?_) -- 114: (((B 13 w 28 o2) - (B 13 w 28 o5)) = 0)
              · refine zS_g (by unfold r32; omega) ?_ -- 115
                refine zS_i (fun h75 => ?_) (fun h75 => ?_) -- 116: (0 ≤ (o60 - o63))
                · unfold f_M_isAlone_125
                  unfold f_M_isAlone_127
                  refine zS_b (s_mod (K := K) (a := (o60 - o63)) (b := 12) (by unfold r32; omega) (by decide) (by decide)) ?_
                  rintro o77 F B ⟨rfl, rfl, q76⟩
                  have z79 := zrm_R (-((B 13 w 28 o2) - (B 13 w 28 o5))) 7
                  refine zS_b (s_isPlainStep (K := K) (a := (zrm (-((B 13 w 28 o2) - (B 13 w 28 o5))) 7)) (b := o77) (by first | exact zrm_R _ _ | (unfold r32; omega)) (by unfold r32; omega)) ?_
                  rintro o81 F B ⟨rfl, rfl, q80⟩
                  refine zS_g (by unfold r32; omega) ?_ -- 121
                  refine zS_i (fun h83 => ?_) (fun h83 => ?_) -- 122: (o81 = 0)
                  · unfold f_M_isAlone_152
                    refine zS_g (by first | decide | omega) ?_ -- 124
                    exact zS_s ⟨rfl, rfl, (by first | decide | omega)⟩
                  · unfold f_M_isAlone_152
                    refine zS_g (by first | decide | omega) ?_ -- 127
                    exact zS_s ⟨rfl, rfl, (by first | decide | omega)⟩
                · unfold f_M_isAlone_119
                  unfold f_M_isAlone_127
                  refine zS_b (s_mod (K := K) (a := (-(o60 - o63))) (b := 12) (by unfold r32; omega) (by decide) (by decide)) ?_
                  rintro o85 F B ⟨rfl, rfl, q84⟩
                  have z87 := zrm_R (-((B 13 w 28 o2) - (B 13 w 28 o5))) 7
                  refine zS_b (s_isPlainStep (K := K) (a := (zrm (-((B 13 w 28 o2) - (B 13 w 28 o5))) 7)) (b := o85) (by first | exact zrm_R _ _ | (unfold r32; omega)) (by unfold r32; omega)) ?_
                  rintro o89 F B ⟨rfl, rfl, q88⟩
                  refine zS_g (by unfold r32; omega) ?_ -- 133
                  refine zS_i (fun h91 => ?_) (fun h91 => ?_) -- 134: (o89 = 0)
                  · unfold f_M_isAlone_152
                    refine zS_g (by first | decide | omega) ?_ -- 136
                    exact zS_s ⟨rfl, rfl, (by first | decide | omega)⟩
                  · unfold f_M_isAlone_152
                    refine zS_g (by first | decide | omega) ?_ -- 139
                    exact zS_s ⟨rfl, rfl, (by first | decide | omega)⟩
              · unfold f_M_isAlone_125
                unfold f_M_isAlone_127
                refine zS_b (s_mod (K := K) (a := (o60 - o63)) (b := 12) (by unfold r32; omega) (by decide) (by decide)) ?_
                rintro o93 F B ⟨rfl, rfl, q92⟩
                have z95 := zrm_R (-((B 13 w 28 o2) - (B 13 w 28 o5))) 7
                refine zS_b (s_isPlainStep (K := K) (a := (zrm (-((B 13 w 28 o2) - (B 13 w 28 o5))) 7)) (b := o93) (by first | exact zrm_R _ _ | (unfold r32; omega)) (by unfold r32; omega)) ?_
                rintro o97 F B ⟨rfl, rfl, q96⟩
                refine zS_g (by unfold r32; omega) ?_ -- 145
                refine zS_i (fun h99 => ?_) (fun h99 => ?_) -- 146: (o97 = 0)
                · unfold f_M_isAlone_152
                  refine zS_g (by first | decide | omega) ?_ -- 148
                  exact zS_s ⟨rfl, rfl, (by first | decide | omega)⟩
                · unfold f_M_isAlone_152
                  refine zS_g (by first | decide | omega) ?_ -- 151
                  exact zS_s ⟨rfl, rfl, (by first | decide | omega)⟩
theorem s_isCrossed {K : Nat} {V w : Int} {F : zF} {B : zB} (hR : RDW V w F B) (hM : MW5 V w F B) (hK : 1000 ≤ K) {t : Int} (t0 : 1 ≤ t) (t1 : t < F 13 w 72) {u v : Int} (u0 : 0 ≤ u) (u1 : u < V) (v0 : 0 ≤ v) (v1 : v < V) : zS (f_M_isCrossed K w t u v F B) (fun r F' B' => F' = F ∧ B' = B ∧ (r = 0 ∨ r = 1)) := by
  have b0 := rd_0 hR
  have m0 := hM.1
  unfold f_M_isCrossed
  refine zS_b (s_lineAt (K := K) (t := t) (u := u) hR hM hK (by first | decide | omega) (by first | decide | omega) (by first | decide | omega) (by first | decide | omega)) ?_
  rintro o2 F B ⟨rfl, rfl, v1⟩
  have vo2 := v1
  obtain ⟨v1a, v1b, v1c⟩ := v1
  refine zS_b (s_lineAt (K := K) (t := t) (u := v) hR hM hK (by first | decide | omega) (by first | decide | omega) (by first | decide | omega) (by first | decide | omega)) ?_
  rintro o5 F B ⟨rfl, rfl, v4⟩
  have vo5 := v4
  obtain ⟨v4a, v4b, v4c⟩ := v4
  refine zS_b (s_isOver (K := K) ⟨b0.1, True.intro⟩ vo2 vo5) ?_
  rintro o8 F B ⟨rfl, rfl, q7⟩
  refine zS_g (by unfold r32; omega) ?_ -- 4
  refine zS_i (fun h10 => ?_) (fun h10 => ?_) -- 5: (o8 = 0)
  · unfold f_M_isCrossed_46
    unfold f_M_isCrossed_47
    refine zS_g (by first | decide | omega) ?_ -- 8
    exact zS_s ⟨rfl, rfl, (by first | decide | omega)⟩
  · refine zS_b (s_lineAt (K := K) (t := (t - 1)) (u := u) hR hM hK (by first | decide | omega) (by first | decide | omega) (by first | decide | omega) (by first | decide | omega)) ?_
    rintro o12 F B ⟨rfl, rfl, v11⟩
    have vo12 := v11
    obtain ⟨v11a, v11b, v11c⟩ := v11
    refine zS_b (s_lineAt (K := K) (t := (t - 1)) (u := v) hR hM hK (by first | decide | omega) (by first | decide | omega) (by first | decide | omega) (by first | decide | omega)) ?_
    rintro o15 F B ⟨rfl, rfl, v14⟩
    have vo15 := v14
    obtain ⟨v14a, v14b, v14c⟩ := v14
    refine zS_b (s_isOver (K := K) ⟨b0.1, True.intro⟩ vo12 vo15) ?_
    rintro o18 F B ⟨rfl, rfl, q17⟩
    refine zS_g (by unfold r32; omega) ?_ -- 13
    refine zS_i (fun h20 => ?_) (fun h20 => ?_) -- 14: (o18 = 0)
    · unfold f_M_isCrossed_47
      refine zS_g (by first | decide | omega) ?_ -- 16
      exact zS_s ⟨rfl, rfl, (by first | decide | omega)⟩
    · unfold f_M_isCrossed_46
      unfold f_M_isCrossed_47
      refine zS_g (by first | decide | omega) ?_ -- 20
      exact zS_s ⟨rfl, rfl, (by first | decide | omega)⟩
theorem s_perfect {K : Nat} {w y z : Int} {F : zF} {B : zB} (b0 : (0 ≤ w ∧ w < 3) ∧ True) (vy : PV w B y) (vz : PV w B z) (y0 : 0 ≤ y) (z0 : 0 ≤ z) : zS (f_M_perfect K w y z F B) (fun r F' B' => F' = F ∧ B' = B ∧ (0 ≤ r ∧ r ≤ 2)) := by
  have vy1 := vy.2.2 y0
  have vy2 := vy.2.1
  have vz1 := vz.2.2 z0
  have vz2 := vz.2.1
  unfold f_M_perfect
  refine zS_b (s_toneAt (K := K) b0.1 vy (by first | decide | omega)) ?_
  rintro o2 F B ⟨rfl, rfl, q1⟩
  refine zS_b (s_toneAt (K := K) b0.1 vz (by first | decide | omega)) ?_
  rintro o5 F B ⟨rfl, rfl, q4⟩
  refine zS_g (by unfold r32; omega) ?_ -- 3
  refine zS_g (by unfold r32; omega) ?_ -- 4
  refine zS_i (fun h7 => ?_) (fun h7 => ?_) -- 5: (o2 < o5)
  · unfold f_M_perfect_18
    refine zS_g (by unfold r32; omega) ?_ -- 7
    refine zS_i (fun h8 => ?_) (fun h8 => ?_) -- 8: (0 = 0)
    · unfold f_M_perfect_28
      refine zS_g (by unfold r32; omega) ?_ -- 10
      refine zS_i (fun h9 => ?_) (fun h9 => ?_) -- 11: (0 = 0)
      · unfold f_M_perfect_39
        refine zS_g (by first | decide | omega) ?_ -- 13
        refine zS_g (by first | decide | omega) ?_ -- 14
        refine zS_g (by first | decide | omega) ?_ -- 15
        refine zS_b (s_mod (K := K) (a := ((B 13 w 28 z) - (B 13 w 28 y))) (b := 7) (by unfold r32; omega) (by decide) (by decide)) ?_
        rintro o11 F B ⟨rfl, rfl, q10⟩
        refine zS_b (s_toneAt (K := K) b0.1 vz (by first | decide | omega)) ?_
        rintro o14 F B ⟨rfl, rfl, q13⟩
        refine zS_b (s_toneAt (K := K) b0.1 vy (by first | decide | omega)) ?_
        rintro o17 F B ⟨rfl, rfl, q16⟩
        refine zS_b (s_mod (K := K) (a := (o14 - o17)) (b := 12) (by unfold r32; omega) (by decide) (by decide)) ?_
        rintro o20 F B ⟨rfl, rfl, q19⟩
        refine zS_g (by unfold r32; omega) ?_ -- 20
        refine zS_i (fun h22 => ?_) (fun h22 => ?_) -- 21: (o11 = 0)
        · refine zS_g (by unfold r32; omega) ?_ -- 22
          refine zS_i (fun h23 => ?_) (fun h23 => ?_) -- 23: (o20 = 0)
          · unfold f_M_perfect_115
            exact zS_s ⟨rfl, rfl, (by first | decide | omega)⟩
          · unfold f_M_perfect_97
            refine zS_g (by unfold r32; omega) ?_ -- 27
            refine zS_i (fun h24 => ?_) (fun h24 => ?_) -- 28: (o11 = 4)
            · refine zS_g (by unfold r32; omega) ?_ -- 29
              refine zS_i (fun h25 => ?_) (fun h25 => ?_) -- 30: (o20 = 7)
              · unfold f_M_perfect_115
                exact zS_s ⟨rfl, rfl, (by first | decide | omega)⟩
              · unfold f_M_perfect_114
                unfold f_M_perfect_115
                exact zS_s ⟨rfl, rfl, (by first | decide | omega)⟩
            · unfold f_M_perfect_114
              unfold f_M_perfect_115
              exact zS_s ⟨rfl, rfl, (by first | decide | omega)⟩
        · unfold f_M_perfect_97
          refine zS_g (by unfold r32; omega) ?_ -- 40
          refine zS_i (fun h26 => ?_) (fun h26 => ?_) -- 41: (o11 = 4)
          · refine zS_g (by unfold r32; omega) ?_ -- 42
            refine zS_i (fun h27 => ?_) (fun h27 => ?_) -- 43: (o20 = 7)
            · unfold f_M_perfect_115
              exact zS_s ⟨rfl, rfl, (by first | decide | omega)⟩
            · unfold f_M_perfect_114
              unfold f_M_perfect_115
              exact zS_s ⟨rfl, rfl, (by first | decide | omega)⟩
          · unfold f_M_perfect_114
            unfold f_M_perfect_115
            exact zS_s ⟨rfl, rfl, (by first | decide | omega)⟩
      · unfold f_M_perfect_39
        refine zS_g (by first | decide | omega) ?_ -- 53
        refine zS_g (by first | decide | omega) ?_ -- 54
        refine zS_g (by first | decide | omega) ?_ -- 55
        refine zS_b (s_mod (K := K) (a := ((B 13 w 28 z) - (B 13 w 28 z))) (b := 7) (by unfold r32; omega) (by decide) (by decide)) ?_
        rintro o29 F B ⟨rfl, rfl, q28⟩
        refine zS_b (s_toneAt (K := K) b0.1 vz (by first | decide | omega)) ?_
        rintro o32 F B ⟨rfl, rfl, q31⟩
        refine zS_b (s_toneAt (K := K) b0.1 vz (by first | decide | omega)) ?_
        rintro o35 F B ⟨rfl, rfl, q34⟩
        refine zS_b (s_mod (K := K) (a := (o32 - o35)) (b := 12) (by unfold r32; omega) (by decide) (by decide)) ?_
        rintro o38 F B ⟨rfl, rfl, q37⟩
        refine zS_g (by unfold r32; omega) ?_ -- 60
        refine zS_i (fun h40 => ?_) (fun h40 => ?_) -- 61: (o29 = 0)
        · refine zS_g (by unfold r32; omega) ?_ -- 62
          refine zS_i (fun h41 => ?_) (fun h41 => ?_) -- 63: (o38 = 0)
          · unfold f_M_perfect_115
            exact zS_s ⟨rfl, rfl, (by first | decide | omega)⟩
          · unfold f_M_perfect_97
            refine zS_g (by unfold r32; omega) ?_ -- 67
            refine zS_i (fun h42 => ?_) (fun h42 => ?_) -- 68: (o29 = 4)
            · refine zS_g (by unfold r32; omega) ?_ -- 69
              refine zS_i (fun h43 => ?_) (fun h43 => ?_) -- 70: (o38 = 7)
              · unfold f_M_perfect_115
                exact zS_s ⟨rfl, rfl, (by first | decide | omega)⟩
              · unfold f_M_perfect_114
                unfold f_M_perfect_115
                exact zS_s ⟨rfl, rfl, (by first | decide | omega)⟩
            · unfold f_M_perfect_114
              unfold f_M_perfect_115
              exact zS_s ⟨rfl, rfl, (by first | decide | omega)⟩
        · unfold f_M_perfect_97
          refine zS_g (by unfold r32; omega) ?_ -- 80
          refine zS_i (fun h44 => ?_) (fun h44 => ?_) -- 81: (o29 = 4)
          · refine zS_g (by unfold r32; omega) ?_ -- 82
            refine zS_i (fun h45 => ?_) (fun h45 => ?_) -- 83: (o38 = 7)
            · unfold f_M_perfect_115
              exact zS_s ⟨rfl, rfl, (by first | decide | omega)⟩
            · unfold f_M_perfect_114
              unfold f_M_perfect_115
              exact zS_s ⟨rfl, rfl, (by first | decide | omega)⟩
          · unfold f_M_perfect_114
            unfold f_M_perfect_115
            exact zS_s ⟨rfl, rfl, (by first | decide | omega)⟩
    · unfold f_M_perfect_28
      refine zS_g (by unfold r32; omega) ?_ -- 93
      refine zS_i (fun h46 => ?_) (fun h46 => ?_) -- 94: (0 = 0)
      · unfold f_M_perfect_39
        refine zS_g (by first | decide | omega) ?_ -- 96
        refine zS_g (by first | decide | omega) ?_ -- 97
        refine zS_g (by first | decide | omega) ?_ -- 98
        refine zS_b (s_mod (K := K) (a := ((B 13 w 28 y) - (B 13 w 28 y))) (b := 7) (by unfold r32; omega) (by decide) (by decide)) ?_
        rintro o48 F B ⟨rfl, rfl, q47⟩
        refine zS_b (s_toneAt (K := K) b0.1 vy (by first | decide | omega)) ?_
        rintro o51 F B ⟨rfl, rfl, q50⟩
        refine zS_b (s_toneAt (K := K) b0.1 vy (by first | decide | omega)) ?_
        rintro o54 F B ⟨rfl, rfl, q53⟩
        refine zS_b (s_mod (K := K) (a := (o51 - o54)) (b := 12) (by unfold r32; omega) (by decide) (by decide)) ?_
        rintro o57 F B ⟨rfl, rfl, q56⟩
        refine zS_g (by unfold r32; omega) ?_ -- 103
        refine zS_i (fun h59 => ?_) (fun h59 => ?_) -- 104: (o48 = 0)
        · refine zS_g (by unfold r32; omega) ?_ -- 105
          refine zS_i (fun h60 => ?_) (fun h60 => ?_) -- 106: (o57 = 0)
          · unfold f_M_perfect_115
            exact zS_s ⟨rfl, rfl, (by first | decide | omega)⟩
          · unfold f_M_perfect_97
            refine zS_g (by unfold r32; omega) ?_ -- 110
            refine zS_i (fun h61 => ?_) (fun h61 => ?_) -- 111: (o48 = 4)
            · refine zS_g (by unfold r32; omega) ?_ -- 112
              refine zS_i (fun h62 => ?_) (fun h62 => ?_) -- 113: (o57 = 7)
              · unfold f_M_perfect_115
                exact zS_s ⟨rfl, rfl, (by first | decide | omega)⟩
              · unfold f_M_perfect_114
                unfold f_M_perfect_115
                exact zS_s ⟨rfl, rfl, (by first | decide | omega)⟩
            · unfold f_M_perfect_114
              unfold f_M_perfect_115
              exact zS_s ⟨rfl, rfl, (by first | decide | omega)⟩
        · unfold f_M_perfect_97
          refine zS_g (by unfold r32; omega) ?_ -- 123
          refine zS_i (fun h63 => ?_) (fun h63 => ?_) -- 124: (o48 = 4)
          · refine zS_g (by unfold r32; omega) ?_ -- 125
            refine zS_i (fun h64 => ?_) (fun h64 => ?_) -- 126: (o57 = 7)
            · unfold f_M_perfect_115
              exact zS_s ⟨rfl, rfl, (by first | decide | omega)⟩
            · unfold f_M_perfect_114
              unfold f_M_perfect_115
              exact zS_s ⟨rfl, rfl, (by first | decide | omega)⟩
          · unfold f_M_perfect_114
            unfold f_M_perfect_115
            exact zS_s ⟨rfl, rfl, (by first | decide | omega)⟩
      · unfold f_M_perfect_39
        refine zS_g (by first | decide | omega) ?_ -- 136
        refine zS_g (by first | decide | omega) ?_ -- 137
        refine zS_g (by first | decide | omega) ?_ -- 138
        refine zS_b (s_mod (K := K) (a := ((B 13 w 28 y) - (B 13 w 28 z))) (b := 7) (by unfold r32; omega) (by decide) (by decide)) ?_
        rintro o66 F B ⟨rfl, rfl, q65⟩
        refine zS_b (s_toneAt (K := K) b0.1 vy (by first | decide | omega)) ?_
        rintro o69 F B ⟨rfl, rfl, q68⟩
        refine zS_b (s_toneAt (K := K) b0.1 vz (by first | decide | omega)) ?_
        rintro o72 F B ⟨rfl, rfl, q71⟩
        refine zS_b (s_mod (K := K) (a := (o69 - o72)) (b := 12) (by unfold r32; omega) (by decide) (by decide)) ?_
        rintro o75 F B ⟨rfl, rfl, q74⟩
        refine zS_g (by unfold r32; omega) ?_ -- 143
        refine zS_i (fun h77 => ?_) (fun h77 => ?_) -- 144: (o66 = 0)
        · refine zS_g (by unfold r32; omega) ?_ -- 145
          refine zS_i (fun h78 => ?_) (fun h78 => ?_) -- 146: (o75 = 0)
          · unfold f_M_perfect_115
            exact zS_s ⟨rfl, rfl, (by first | decide | omega)⟩
          · unfold f_M_perfect_97
            refine zS_g (by unfold r32; omega) ?_ -- 150
            refine zS_i (fun h79 => ?_) (fun h79 => ?_) -- 151: (o66 = 4)
            · refine zS_g (by unfold r32; omega) ?_ -- 152
              refine zS_i (fun h80 => ?_) (fun h80 => ?_) -- 153: (o75 = 7)
              · unfold f_M_perfect_115
                exact zS_s ⟨rfl, rfl, (by first | decide | omega)⟩
              · unfold f_M_perfect_114
                unfold f_M_perfect_115
                exact zS_s ⟨rfl, rfl, (by first | decide | omega)⟩
            · unfold f_M_perfect_114
              unfold f_M_perfect_115
              exact zS_s ⟨rfl, rfl, (by first | decide | omega)⟩
        · unfold f_M_perfect_97
          refine zS_g (by unfold r32; omega) ?_ -- 163
          refine zS_i (fun h81 => ?_) (fun h81 => ?_) -- 164: (o66 = 4)
          · refine zS_g (by unfold r32; omega) ?_ -- 165
            refine zS_i (fun h82 => ?_) (fun h82 => ?_) -- 166: (o75 = 7)
            · unfold f_M_perfect_115
              exact zS_s ⟨rfl, rfl, (by first | decide | omega)⟩
            · unfold f_M_perfect_114
              unfold f_M_perfect_115
              exact zS_s ⟨rfl, rfl, (by first | decide | omega)⟩
          · unfold f_M_perfect_114
            unfold f_M_perfect_115
            exact zS_s ⟨rfl, rfl, (by first | decide | omega)⟩
  · unfold f_M_perfect_18
    refine zS_g (by unfold r32; omega) ?_ -- 176
    refine zS_i (fun h83 => ?_) (fun h83 => ?_) -- 177: (1 = 0)
    · unfold f_M_perfect_28
      refine zS_g (by unfold r32; omega) ?_ -- 179
      refine zS_i (fun h84 => ?_) (fun h84 => ?_) -- 180: (1 = 0)
      · unfold f_M_perfect_39
        refine zS_g (by first | decide | omega) ?_ -- 182
        refine zS_g (by first | decide | omega) ?_ -- 183
        refine zS_g (by first | decide | omega) ?_ -- 184
        refine zS_b (s_mod (K := K) (a := ((B 13 w 28 z) - (B 13 w 28 y))) (b := 7) (by unfold r32; omega) (by decide) (by decide)) ?_
        rintro o86 F B ⟨rfl, rfl, q85⟩
        refine zS_b (s_toneAt (K := K) b0.1 vz (by first | decide | omega)) ?_
        rintro o89 F B ⟨rfl, rfl, q88⟩
        refine zS_b (s_toneAt (K := K) b0.1 vy (by first | decide | omega)) ?_
        rintro o92 F B ⟨rfl, rfl, q91⟩
        refine zS_b (s_mod (K := K) (a := (o89 - o92)) (b := 12) (by unfold r32; omega) (by decide) (by decide)) ?_
        rintro o95 F B ⟨rfl, rfl, q94⟩
        refine zS_g (by unfold r32; omega) ?_ -- 189
        refine zS_i (fun h97 => ?_) (fun h97 => ?_) -- 190: (o86 = 0)
        · refine zS_g (by unfold r32; omega) ?_ -- 191
          refine zS_i (fun h98 => ?_) (fun h98 => ?_) -- 192: (o95 = 0)
          · unfold f_M_perfect_115
            exact zS_s ⟨rfl, rfl, (by first | decide | omega)⟩
          · unfold f_M_perfect_97
            refine zS_g (by unfold r32; omega) ?_ -- 196
            refine zS_i (fun h99 => ?_) (fun h99 => ?_) -- 197: (o86 = 4)
            · refine zS_g (by unfold r32; omega) ?_ -- 198
              refine zS_i (fun h100 => ?_) (fun h100 => ?_) -- 199: (o95 = 7)
              · unfold f_M_perfect_115
                exact zS_s ⟨rfl, rfl, (by first | decide | omega)⟩
              · unfold f_M_perfect_114
                unfold f_M_perfect_115
                exact zS_s ⟨rfl, rfl, (by first | decide | omega)⟩
            · unfold f_M_perfect_114
              unfold f_M_perfect_115
              exact zS_s ⟨rfl, rfl, (by first | decide | omega)⟩
        · unfold f_M_perfect_97
          refine zS_g (by unfold r32; omega) ?_ -- 209
          refine zS_i (fun h101 => ?_) (fun h101 => ?_) -- 210: (o86 = 4)
          · refine zS_g (by unfold r32; omega) ?_ -- 211
            refine zS_i (fun h102 => ?_) (fun h102 => ?_) -- 212: (o95 = 7)
            · unfold f_M_perfect_115
              exact zS_s ⟨rfl, rfl, (by first | decide | omega)⟩
            · unfold f_M_perfect_114
              unfold f_M_perfect_115
              exact zS_s ⟨rfl, rfl, (by first | decide | omega)⟩
          · unfold f_M_perfect_114
            unfold f_M_perfect_115
            exact zS_s ⟨rfl, rfl, (by first | decide | omega)⟩
      · unfold f_M_perfect_39
        refine zS_g (by first | decide | omega) ?_ -- 222
        refine zS_g (by first | decide | omega) ?_ -- 223
        refine zS_g (by first | decide | omega) ?_ -- 224
        refine zS_b (s_mod (K := K) (a := ((B 13 w 28 z) - (B 13 w 28 z))) (b := 7) (by unfold r32; omega) (by decide) (by decide)) ?_
        rintro o104 F B ⟨rfl, rfl, q103⟩
        refine zS_b (s_toneAt (K := K) b0.1 vz (by first | decide | omega)) ?_
        rintro o107 F B ⟨rfl, rfl, q106⟩
        refine zS_b (s_toneAt (K := K) b0.1 vz (by first | decide | omega)) ?_
        rintro o110 F B ⟨rfl, rfl, q109⟩
        refine zS_b (s_mod (K := K) (a := (o107 - o110)) (b := 12) (by unfold r32; omega) (by decide) (by decide)) ?_
        rintro o113 F B ⟨rfl, rfl, q112⟩
        refine zS_g (by unfold r32; omega) ?_ -- 229
        refine zS_i (fun h115 => ?_) (fun h115 => ?_) -- 230: (o104 = 0)
        · refine zS_g (by unfold r32; omega) ?_ -- 231
          refine zS_i (fun h116 => ?_) (fun h116 => ?_) -- 232: (o113 = 0)
          · unfold f_M_perfect_115
            exact zS_s ⟨rfl, rfl, (by first | decide | omega)⟩
          · unfold f_M_perfect_97
            refine zS_g (by unfold r32; omega) ?_ -- 236
            refine zS_i (fun h117 => ?_) (fun h117 => ?_) -- 237: (o104 = 4)
            · refine zS_g (by unfold r32; omega) ?_ -- 238
              refine zS_i (fun h118 => ?_) (fun h118 => ?_) -- 239: (o113 = 7)
              · unfold f_M_perfect_115
                exact zS_s ⟨rfl, rfl, (by first | decide | omega)⟩
              · unfold f_M_perfect_114
                unfold f_M_perfect_115
                exact zS_s ⟨rfl, rfl, (by first | decide | omega)⟩
            · unfold f_M_perfect_114
              unfold f_M_perfect_115
              exact zS_s ⟨rfl, rfl, (by first | decide | omega)⟩
        · unfold f_M_perfect_97
          refine zS_g (by unfold r32; omega) ?_ -- 249
          refine zS_i (fun h119 => ?_) (fun h119 => ?_) -- 250: (o104 = 4)
          · refine zS_g (by unfold r32; omega) ?_ -- 251
            refine zS_i (fun h120 => ?_) (fun h120 => ?_) -- 252: (o113 = 7)
            · unfold f_M_perfect_115
              exact zS_s ⟨rfl, rfl, (by first | decide | omega)⟩
            · unfold f_M_perfect_114
              unfold f_M_perfect_115
              exact zS_s ⟨rfl, rfl, (by first | decide | omega)⟩
          · unfold f_M_perfect_114
            unfold f_M_perfect_115
            exact zS_s ⟨rfl, rfl, (by first | decide | omega)⟩
    · unfold f_M_perfect_28
      refine zS_g (by unfold r32; omega) ?_ -- 262
      refine zS_i (fun h121 => ?_) (fun h121 => ?_) -- 263: (1 = 0)
      · unfold f_M_perfect_39
        refine zS_g (by first | decide | omega) ?_ -- 265
        refine zS_g (by first | decide | omega) ?_ -- 266
        refine zS_g (by first | decide | omega) ?_ -- 267
        refine zS_b (s_mod (K := K) (a := ((B 13 w 28 y) - (B 13 w 28 y))) (b := 7) (by unfold r32; omega) (by decide) (by decide)) ?_
        rintro o123 F B ⟨rfl, rfl, q122⟩
        refine zS_b (s_toneAt (K := K) b0.1 vy (by first | decide | omega)) ?_
        rintro o126 F B ⟨rfl, rfl, q125⟩
        refine zS_b (s_toneAt (K := K) b0.1 vy (by first | decide | omega)) ?_
        rintro o129 F B ⟨rfl, rfl, q128⟩
        refine zS_b (s_mod (K := K) (a := (o126 - o129)) (b := 12) (by unfold r32; omega) (by decide) (by decide)) ?_
        rintro o132 F B ⟨rfl, rfl, q131⟩
        refine zS_g (by unfold r32; omega) ?_ -- 272
        refine zS_i (fun h134 => ?_) (fun h134 => ?_) -- 273: (o123 = 0)
        · refine zS_g (by unfold r32; omega) ?_ -- 274
          refine zS_i (fun h135 => ?_) (fun h135 => ?_) -- 275: (o132 = 0)
          · unfold f_M_perfect_115
            exact zS_s ⟨rfl, rfl, (by first | decide | omega)⟩
          · unfold f_M_perfect_97
            refine zS_g (by unfold r32; omega) ?_ -- 279
            refine zS_i (fun h136 => ?_) (fun h136 => ?_) -- 280: (o123 = 4)
            · refine zS_g (by unfold r32; omega) ?_ -- 281
              refine zS_i (fun h137 => ?_) (fun h137 => ?_) -- 282: (o132 = 7)
              · unfold f_M_perfect_115
                exact zS_s ⟨rfl, rfl, (by first | decide | omega)⟩
              · unfold f_M_perfect_114
                unfold f_M_perfect_115
                exact zS_s ⟨rfl, rfl, (by first | decide | omega)⟩
            · unfold f_M_perfect_114
              unfold f_M_perfect_115
              exact zS_s ⟨rfl, rfl, (by first | decide | omega)⟩
        · unfold f_M_perfect_97
          refine zS_g (by unfold r32; omega) ?_ -- 292
          refine zS_i (fun h138 => ?_) (fun h138 => ?_) -- 293: (o123 = 4)
          · refine zS_g (by unfold r32; omega) ?_ -- 294
            refine zS_i (fun h139 => ?_) (fun h139 => ?_) -- 295: (o132 = 7)
            · unfold f_M_perfect_115
              exact zS_s ⟨rfl, rfl, (by first | decide | omega)⟩
            · unfold f_M_perfect_114
              unfold f_M_perfect_115
              exact zS_s ⟨rfl, rfl, (by first | decide | omega)⟩
          · unfold f_M_perfect_114
            unfold f_M_perfect_115
            exact zS_s ⟨rfl, rfl, (by first | decide | omega)⟩
      · unfold f_M_perfect_39
        refine zS_g (by first | decide | omega) ?_ -- 305
        refine zS_g (by first | decide | omega) ?_ -- 306
        refine zS_g (by first | decide | omega) ?_ -- 307
        refine zS_b (s_mod (K := K) (a := ((B 13 w 28 y) - (B 13 w 28 z))) (b := 7) (by unfold r32; omega) (by decide) (by decide)) ?_
        rintro o141 F B ⟨rfl, rfl, q140⟩
        refine zS_b (s_toneAt (K := K) b0.1 vy (by first | decide | omega)) ?_
        rintro o144 F B ⟨rfl, rfl, q143⟩
        refine zS_b (s_toneAt (K := K) b0.1 vz (by first | decide | omega)) ?_
        rintro o147 F B ⟨rfl, rfl, q146⟩
        refine zS_b (s_mod (K := K) (a := (o144 - o147)) (b := 12) (by unfold r32; omega) (by decide) (by decide)) ?_
        rintro o150 F B ⟨rfl, rfl, q149⟩
        refine zS_g (by unfold r32; omega) ?_ -- 312
        refine zS_i (fun h152 => ?_) (fun h152 => ?_) -- 313: (o141 = 0)
        · refine zS_g (by unfold r32; omega) ?_ -- 314
          refine zS_i (fun h153 => ?_) (fun h153 => ?_) -- 315: (o150 = 0)
          · unfold f_M_perfect_115
            exact zS_s ⟨rfl, rfl, (by first | decide | omega)⟩
          · unfold f_M_perfect_97
            refine zS_g (by unfold r32; omega) ?_ -- 319
            refine zS_i (fun h154 => ?_) (fun h154 => ?_) -- 320: (o141 = 4)
            · refine zS_g (by unfold r32; omega) ?_ -- 321
              refine zS_i (fun h155 => ?_) (fun h155 => ?_) -- 322: (o150 = 7)
              · unfold f_M_perfect_115
                exact zS_s ⟨rfl, rfl, (by first | decide | omega)⟩
              · unfold f_M_perfect_114
                unfold f_M_perfect_115
                exact zS_s ⟨rfl, rfl, (by first | decide | omega)⟩
            · unfold f_M_perfect_114
              unfold f_M_perfect_115
              exact zS_s ⟨rfl, rfl, (by first | decide | omega)⟩
        · unfold f_M_perfect_97
          refine zS_g (by unfold r32; omega) ?_ -- 332
          refine zS_i (fun h156 => ?_) (fun h156 => ?_) -- 333: (o141 = 4)
          · refine zS_g (by unfold r32; omega) ?_ -- 334
            refine zS_i (fun h157 => ?_) (fun h157 => ?_) -- 335: (o150 = 7)
            · unfold f_M_perfect_115
              exact zS_s ⟨rfl, rfl, (by first | decide | omega)⟩
            · unfold f_M_perfect_114
              unfold f_M_perfect_115
              exact zS_s ⟨rfl, rfl, (by first | decide | omega)⟩
          · unfold f_M_perfect_114
            unfold f_M_perfect_115
            exact zS_s ⟨rfl, rfl, (by first | decide | omega)⟩
theorem s_isPar134 {K : Nat} {w s : Int} {F : zF} {B : zB} (b0 : (0 ≤ w ∧ w < 3) ∧ True) {y1 y2 y3 y4 k : Int} (v1 : PV w B y1) (v2 : PV w B y2) (v3 : PV w B y3) (v4 : PV w B y4) (g1 : 0 ≤ y1) (g2 : 0 ≤ y2) (g3 : 0 ≤ y3) (g4 : 0 ≤ y4) (rk : r32 k) (rs : r32 s) : zS (f_M_isParallel_134 K y4 y3 y2 y1 w k s F B) (fun r F' B' => F' = F ∧ B' = B ∧ (r = 0 ∨ r = 1)) := by
  have vy1 := v1
  have vy2 := v2
  have vy3 := v3
  have vy4 := v4
  have c1 := v1.2.2 g1
  have c2 := v2.2.2 g2
  have c3 := v3.2.2 g3
  have c4 := v4.2.2 g4
  have d1 := v1.2.1
  have d2 := v2.2.1
  have d3 := v3.2.1
  have d4 := v4.2.1
  unfold f_M_isParallel_134
  refine zS_g (by unfold r32; omega) ?_ -- 1
  refine zS_i (fun h1 => ?_) (fun h1 => ?_) -- 2: (s = 0)
  · exact zS_s ⟨rfl, rfl, (by first | decide | omega)⟩
  · refine zS_b (s_perfect (K := K) ⟨b0.1, True.intro⟩ vy1 vy2 (by first | decide | omega) (by first | decide | omega)) ?_
    rintro o3 F B ⟨rfl, rfl, q2⟩
    refine zS_b (s_perfect (K := K) ⟨b0.1, True.intro⟩ vy3 vy4 (by first | decide | omega) (by first | decide | omega)) ?_
    rintro o6 F B ⟨rfl, rfl, q5⟩
    refine zS_g (by unfold r32; omega) ?_ -- 6
    refine zS_i (fun h8 => ?_) (fun h8 => ?_) -- 7: (3 ≤ k)
    · refine zS_b (s_toneAt (K := K) b0.1 vy1 (by first | decide | omega)) ?_
      rintro o10 F B ⟨rfl, rfl, q9⟩
      refine zS_b (s_toneAt (K := K) b0.1 vy2 (by first | decide | omega)) ?_
      rintro o13 F B ⟨rfl, rfl, q12⟩
      refine zS_g (by unfold r32; omega) ?_ -- 10
      refine zS_g (by unfold r32; omega) ?_ -- 11
      refine zS_i (fun h15 => ?_) (fun h15 => ?_) -- 12: (o10 < o13)
      · refine zS_g (by first | decide | omega) ?_ -- 13
        refine zS_g (by first | decide | omega) ?_ -- 14
        refine zS_g (by first | decide | omega) ?_ -- 15
        unfold f_M_isParallel_234
        refine zS_g (by unfold r32; omega) ?_ -- 17
        refine zS_i (fun h16 => ?_) (fun h16 => ?_) -- 18: (o3 ≤ 0)
        · unfold f_M_isParallel_265
          unfold f_M_isParallel_266
          refine zS_g (by first | decide | omega) ?_ -- 21
          exact zS_s ⟨rfl, rfl, (by first | decide | omega)⟩
        · refine zS_g (by unfold r32; omega) ?_ -- 23
          refine zS_i (fun h17 => ?_) (fun h17 => ?_) -- 24: (o6 = o3)
          · unfold f_M_isParallel_265
            unfold f_M_isParallel_266
            refine zS_g (by first | decide | omega) ?_ -- 27
            exact zS_s ⟨rfl, rfl, (by first | decide | omega)⟩
          · refine zS_g (by unfold r32; omega) ?_ -- 29
            refine zS_i (fun h18 => ?_) (fun h18 => ?_) -- 30: (2 < ((B 13 w 28 y2) - (B 13 w 28 y4)))
            · unfold f_M_isParallel_261
              unfold f_M_isParallel_266
              refine zS_g (by first | decide | omega) ?_ -- 33
              exact zS_s ⟨rfl, rfl, (by first | decide | omega)⟩
            · refine zS_i (fun h19 => ?_) (fun h19 => ?_) -- 35: ((-2) ≤ ((B 13 w 28 y2) - (B 13 w 28 y4)))
              · unfold f_M_isParallel_265
                unfold f_M_isParallel_266
                refine zS_g (by first | decide | omega) ?_ -- 38
                exact zS_s ⟨rfl, rfl, (by first | decide | omega)⟩
              · unfold f_M_isParallel_261
                unfold f_M_isParallel_266
                refine zS_g (by first | decide | omega) ?_ -- 42
                exact zS_s ⟨rfl, rfl, (by first | decide | omega)⟩
      · refine zS_g (by first | decide | omega) ?_ -- 44
        refine zS_g (by first | decide | omega) ?_ -- 45
        refine zS_g (by first | decide | omega) ?_ -- 46
        unfold f_M_isParallel_234
        refine zS_g (by unfold r32; omega) ?_ -- 48
        refine zS_i (fun h20 => ?_) (fun h20 => ?_) -- 49: (o3 ≤ 0)
        · unfold f_M_isParallel_265
          unfold f_M_isParallel_266
          refine zS_g (by first | decide | omega) ?_ -- 52
          exact zS_s ⟨rfl, rfl, (by first | decide | omega)⟩
        · refine zS_g (by unfold r32; omega) ?_ -- 54
          refine zS_i (fun h21 => ?_) (fun h21 => ?_) -- 55: (o6 = o3)
          · unfold f_M_isParallel_265
            unfold f_M_isParallel_266
            refine zS_g (by first | decide | omega) ?_ -- 58
            exact zS_s ⟨rfl, rfl, (by first | decide | omega)⟩
          · refine zS_g (by unfold r32; omega) ?_ -- 60
            refine zS_i (fun h22 => ?_) (fun h22 => ?_) -- 61: (2 < ((B 13 w 28 y1) - (B 13 w 28 y3)))
            · unfold f_M_isParallel_261
              unfold f_M_isParallel_266
              refine zS_g (by first | decide | omega) ?_ -- 64
              exact zS_s ⟨rfl, rfl, (by first | decide | omega)⟩
            · refine zS_i (fun h23 => ?_) (fun h23 => ?_) -- 66: ((-2) ≤ ((B 13 w 28 y1) - (B 13 w 28 y3)))
              · unfold f_M_isParallel_265
                unfold f_M_isParallel_266
                refine zS_g (by first | decide | omega) ?_ -- 69
                exact zS_s ⟨rfl, rfl, (by first | decide | omega)⟩
              · unfold f_M_isParallel_261
                unfold f_M_isParallel_266
                refine zS_g (by first | decide | omega) ?_ -- 73
                exact zS_s ⟨rfl, rfl, (by first | decide | omega)⟩
    · refine zS_g (by unfold r32; omega) ?_ -- 75
      refine zS_i (fun h24 => ?_) (fun h24 => ?_) -- 76: (o3 = k)
      · refine zS_g (by unfold r32; omega) ?_ -- 77
        refine zS_i (fun h25 => ?_) (fun h25 => ?_) -- 78: (o6 = k)
        · unfold f_M_isParallel_185
          refine zS_g (by first | decide | omega) ?_ -- 80
          exact zS_s ⟨rfl, rfl, (by first | decide | omega)⟩
        · unfold f_M_isParallel_184
          unfold f_M_isParallel_185
          refine zS_g (by first | decide | omega) ?_ -- 84
          exact zS_s ⟨rfl, rfl, (by first | decide | omega)⟩
      · unfold f_M_isParallel_184
        unfold f_M_isParallel_185
        refine zS_g (by first | decide | omega) ?_ -- 88
        exact zS_s ⟨rfl, rfl, (by first | decide | omega)⟩
theorem s_isParallel {K : Nat} {V w : Int} {F : zF} {B : zB} (hR : RDW V w F B) (hM : MW5 V w F B) (hK : 1000 ≤ K) {t : Int} (t0 : 1 ≤ t) (t1 : t < F 13 w 72) {u v k : Int} (u0 : 0 ≤ u) (u1 : u < V) (v0 : 0 ≤ v) (v1 : v < V) (rk : r32 k) : zS (f_M_isParallel K w t k u v F B) (fun r F' B' => F' = F ∧ B' = B ∧ (r = 0 ∨ r = 1)) := by
  have b0 := rd_0 hR
  have m0 := hM.1
  unfold f_M_isParallel
  refine zS_b (s_lineAt (K := K) (t := t) (u := u) hR hM hK (by first | decide | omega) (by first | decide | omega) (by first | decide | omega) (by first | decide | omega)) ?_
  rintro o2 F B ⟨rfl, rfl, v1⟩
  have vo2 := v1
  obtain ⟨v1a, v1b, v1c⟩ := v1
  refine zS_b (s_lineAt (K := K) (t := t) (u := v) hR hM hK (by first | decide | omega) (by first | decide | omega) (by first | decide | omega) (by first | decide | omega)) ?_
  rintro o5 F B ⟨rfl, rfl, v4⟩
  have vo5 := v4
  obtain ⟨v4a, v4b, v4c⟩ := v4
  refine zS_b (s_lineAt (K := K) (t := (t - 1)) (u := u) hR hM hK (by first | decide | omega) (by first | decide | omega) (by first | decide | omega) (by first | decide | omega)) ?_
  rintro o8 F B ⟨rfl, rfl, v7⟩
  have vo8 := v7
  obtain ⟨v7a, v7b, v7c⟩ := v7
  refine zS_b (s_lineAt (K := K) (t := (t - 1)) (u := v) hR hM hK (by first | decide | omega) (by first | decide | omega) (by first | decide | omega) (by first | decide | omega)) ?_
  rintro o11 F B ⟨rfl, rfl, v10⟩
  have vo11 := v10
  obtain ⟨v10a, v10b, v10c⟩ := v10
  refine zS_g (by unfold r32; omega) ?_ -- 5
  refine zS_i (fun h13 => ?_) (fun h13 => ?_) -- 6: (o2 < 0)
  · unfold f_M_isParallel_77
    exact zS_s ⟨rfl, rfl, (by first | decide | omega)⟩
  · refine zS_g (by unfold r32; omega) ?_ -- 9
    refine zS_i (fun h14 => ?_) (fun h14 => ?_) -- 10: (o5 < 0)
    · unfold f_M_isParallel_77
      exact zS_s ⟨rfl, rfl, (by first | decide | omega)⟩
    · refine zS_g (by unfold r32; omega) ?_ -- 13
      refine zS_i (fun h15 => ?_) (fun h15 => ?_) -- 14: (o8 < 0)
      · unfold f_M_isParallel_77
        exact zS_s ⟨rfl, rfl, (by first | decide | omega)⟩
      · refine zS_g (by unfold r32; omega) ?_ -- 17
        refine zS_i (fun h16 => ?_) (fun h16 => ?_) -- 18: (o11 < 0)
        · unfold f_M_isParallel_77
          exact zS_s ⟨rfl, rfl, (by first | decide | omega)⟩
        · refine zS_b (s_beginsAt (K := K) (t := t) (u := u) hR hM hK (by first | decide | omega) (by first | decide | omega) (by first | decide | omega) (by first | decide | omega) (by first | decide | omega)) ?_
          rintro o18 F B ⟨rfl, rfl, q17⟩
          refine zS_g (by unfold r32; omega) ?_ -- 22
          refine zS_i (fun h20 => ?_) (fun h20 => ?_) -- 23: (o18 = 0)
          · unfold f_M_isParallel_77
            exact zS_s ⟨rfl, rfl, (by first | decide | omega)⟩
          · refine zS_b (s_beginsAt (K := K) (t := t) (u := v) hR hM hK (by first | decide | omega) (by first | decide | omega) (by first | decide | omega) (by first | decide | omega) (by first | decide | omega)) ?_
            rintro o22 F B ⟨rfl, rfl, q21⟩
            refine zS_g (by unfold r32; omega) ?_ -- 27
            refine zS_i (fun h24 => ?_) (fun h24 => ?_) -- 28: (o22 = 0)
            · unfold f_M_isParallel_77
              exact zS_s ⟨rfl, rfl, (by first | decide | omega)⟩
            · refine zS_b (s_toneAt (K := K) b0.1 vo2 (by first | decide | omega)) ?_
              rintro o26 F B ⟨rfl, rfl, q25⟩
              refine zS_b (s_toneAt (K := K) b0.1 vo8 (by first | decide | omega)) ?_
              rintro o29 F B ⟨rfl, rfl, q28⟩
              refine zS_b (s_toneAt (K := K) b0.1 vo5 (by first | decide | omega)) ?_
              rintro o32 F B ⟨rfl, rfl, q31⟩
              refine zS_b (s_toneAt (K := K) b0.1 vo11 (by first | decide | omega)) ?_
              rintro o35 F B ⟨rfl, rfl, q34⟩
              refine zS_g (by unfold r32; omega) ?_ -- 35
              refine zS_i (fun h37 => ?_) (fun h37 => ?_) -- 36: ((o26 - o29) ≤ 0)
              · unfold f_M_isParallel_119
                refine zS_g (by unfold r32; omega) ?_ -- 38
                refine zS_i (fun h38 => ?_) (fun h38 => ?_) -- 39: (0 ≤ (o26 - o29))
                · unfold f_M_isParallel_133
                  exact s_isPar134 ⟨b0.1, True.intro⟩ vo2 vo5 vo8 vo11 (by first | decide | omega) (by first | decide | omega) (by first | decide | omega) (by first | decide | omega) rk (by decide) -- 41 f_M_isParallel_134
                · refine zS_g (by unfold r32; omega) ?_ -- 42
                  refine zS_i (fun h39 => ?_) (fun h39 => ?_) -- 43: (0 ≤ (o32 - o35))
                  · unfold f_M_isParallel_133
                    exact s_isPar134 ⟨b0.1, True.intro⟩ vo2 vo5 vo8 vo11 (by first | decide | omega) (by first | decide | omega) (by first | decide | omega) (by first | decide | omega) rk (by decide) -- 45 f_M_isParallel_134
                  · unfold f_M_isParallel_129
                    exact s_isPar134 ⟨b0.1, True.intro⟩ vo2 vo5 vo8 vo11 (by first | decide | omega) (by first | decide | omega) (by first | decide | omega) (by first | decide | omega) rk (by decide) -- 47 f_M_isParallel_134
              · refine zS_g (by unfold r32; omega) ?_ -- 48
                refine zS_i (fun h40 => ?_) (fun h40 => ?_) -- 49: (0 < (o32 - o35))
                · unfold f_M_isParallel_129
                  exact s_isPar134 ⟨b0.1, True.intro⟩ vo2 vo5 vo8 vo11 (by first | decide | omega) (by first | decide | omega) (by first | decide | omega) (by first | decide | omega) rk (by decide) -- 51 f_M_isParallel_134
                · unfold f_M_isParallel_119
                  refine zS_g (by unfold r32; omega) ?_ -- 53
                  refine zS_i (fun h41 => ?_) (fun h41 => ?_) -- 54: (0 ≤ (o26 - o29))
                  · unfold f_M_isParallel_133
                    exact s_isPar134 ⟨b0.1, True.intro⟩ vo2 vo5 vo8 vo11 (by first | decide | omega) (by first | decide | omega) (by first | decide | omega) (by first | decide | omega) rk (by decide) -- 56 f_M_isParallel_134
                  · refine zS_g (by unfold r32; omega) ?_ -- 57
                    refine zS_i (fun h42 => ?_) (fun h42 => ?_) -- 58: (0 ≤ (o32 - o35))
                    · unfold f_M_isParallel_133
                      exact s_isPar134 ⟨b0.1, True.intro⟩ vo2 vo5 vo8 vo11 (by first | decide | omega) (by first | decide | omega) (by first | decide | omega) (by first | decide | omega) rk (by decide) -- 60 f_M_isParallel_134
                    · unfold f_M_isParallel_129
                      exact s_isPar134 ⟨b0.1, True.intro⟩ vo2 vo5 vo8 vo11 (by first | decide | omega) (by first | decide | omega) (by first | decide | omega) (by first | decide | omega) rk (by decide) -- 62 f_M_isParallel_134
end
end
section
section
/-! ===== faults between voices, reference: all of them ===== -/
def X77 (B : zB) : Prop := ∀ i x, r32 (B 13 i 77 x) ∧ r32 (B 13 i 78 x) ∧ r32 (B 13 i 79 x) ∧ r32 (B 13 i 80 x)
def BQ (w : Int) (F0 F : zF) (B0 B : zB) : Prop := (∀ c i k, ¬ (c = 13 ∧ i = w ∧ k = 76) → F c i k = F0 c i k) ∧ (0 ≤ F 13 w 76 ∧ F 13 w 76 ≤ 300) ∧ (∀ c i k x, ¬ (c = 13 ∧ i = w ∧ 77 ≤ k ∧ k ≤ 80) → B c i k x = B0 c i k x) ∧ X77 B
theorem RDW_b {V w : Int} {F F' : zF} {B B' : zB} (h : RDW V w F B) (q : BQ w F F' B B') : RDW V w F' B' := RDW_f h (fun k _ _ => q.1 13 w k (by first | decide | omega)) (fun k x _ h' => q.2.2.1 13 w k x (by first | decide | omega))
theorem MW5_f {V w : Int} {F F' : zF} {B B' : zB} (h : MW5 V w F B) (f : F' 13 w 72 = F 13 w 72) (b : ∀ k x, (k = 12 ∨ k = 73 ∨ k = 74 ∨ k = 75) → B' 13 w k x = B 13 w k x) : MW5 V w F' B' := by
  unfold MW5 MP at *
  rw [f]
  have b12 := fun x => b 12 x (by first | decide | omega)
  have b73 := fun x => b 73 x (by first | decide | omega)
  have b74 := fun x => b 74 x (by first | decide | omega)
  have b75 := fun x => b 75 x (by first | decide | omega)
  simp only [b12, b73, b74, b75]
  exact h
theorem MW5_b {V w : Int} {F F' : zF} {B B' : zB} (h : MW5 V w F B) (q : BQ w F F' B B') : MW5 V w F' B' := MW5_f h (q.1 13 w 72 (by first | decide | omega)) (fun k x hk => q.2.2.1 13 w k x (by first | decide | omega))
theorem s_flt1 {K : Nat} {w a b c d : Int} {F0 F : zF} {B0 B : zB} (w0 : 0 ≤ w ∧ w < 3) (q : BQ w F0 F B0 B) (ra : r32 a) (rb : r32 b) (rc : r32 c) (rd : r32 d) : zS (f_M_fault_1 K w a b c d F B) (fun _ F' B' => BQ w F0 F' B0 B') := by
  obtain ⟨q1, q2, q3, q4⟩ := q
  unfold f_M_fault_1
  refine zS_g w0 ?_
  refine zS_g (by unfold r32; omega) ?_
  refine zS_i (fun h => ?_) (fun h => ?_)
  · exact zS_s ⟨q1, q2, q3, q4⟩
  · refine zS_g (by first | decide | omega) ?_
    refine zS_s ⟨fun c i k n => by rw [zup3_v, if_neg n]; exact q1 c i k n, by rw [zup3_v, if_pos (by first | decide | omega)]; omega, fun c i k x n => by rw [zup4_v, if_neg (by first | decide | omega), zup4_v, if_neg (by first | decide | omega), zup4_v, if_neg (by first | decide | omega), zup4_v, if_neg (by first | decide | omega)]; exact q3 c i k x n, fun i x => ?_⟩
    obtain ⟨x1, x2, x3, x4⟩ := q4 i x
    have key : ∀ {C : zB} {k k' : Nat} {j v : Int}, r32 v → r32 (C 13 i k' x) → r32 ((zup4 C 13 w k j v) 13 i k' x) := fun hv hc => by
      rw [zup4_v]
      split
      · exact hv
      · exact hc
    exact ⟨key rd (key rc (key rb (key ra x1))), key rd (key rc (key rb (key ra x2))), key rd (key rc (key rb (key ra x3))), key rd (key rc (key rb (key ra x4)))⟩
theorem s_btw69 {K : Nat} {V w t k u : Int} {F0 : zF} {B0 : zB} {rec7 : Int → Int → zF → zB → zO} {rec17 : Int → Int → Int → zF → zB → zO} {rec : Int → Int → Int → Int → zF → zB → zO} {Q : Int → zF → zB → Prop} (hK : 1000 ≤ K) (hR0 : RDW V w F0 B0) (hM0 : MW5 V w F0 B0) (t0 : 1 ≤ t) (t1 : t < F0 13 w 72) (k0 : 1 ≤ k ∧ k ≤ 7) (u0 : 0 ≤ u) (u1 : u < V) (hrec : ∀ F B, BQ w F0 F B0 B → zS (rec (u + 1) k t w F B) Q) : ∀ (n : Nat) (v : Int) (F : zF) (B : zB), BQ w F0 F B0 B → 0 ≤ v → v ≤ V → V - v < n → zS (f_M_between_0_69 rec7 rec17 rec K n v u k t w F B) Q := by
  have b0 := rd_0 hR0
  have mm := hM0.1
  intro n
  induction n with
  | zero => intro v F B _ _ _ hn; exfalso; omega
  | succ n ih =>
    intro v F B q v0 v1 hn
    have hR := RDW_b hR0 q
    have hM := MW5_b hM0 q
    have e1 := q.1 13 w 1 (by first | decide | omega)
    have e72 := q.1 13 w 72 (by first | decide | omega)
    have nx : ∀ F B, BQ w F0 F B0 B → v < V → zS (f_M_between_0_121 rec7 rec17 rec (f_M_between_0_69 rec7 rec17 rec K n) K v u k t w F B) Q := fun F B q' hv => by
      unfold f_M_between_0_121
      exact ih (v + 1) F B q' (by first | decide | omega) (by first | decide | omega) (by first | decide | omega)
    have ft : ∀ F B, BQ w F0 F B0 B → v < V → zS (f_M_between_0_111 rec7 rec17 rec (f_M_between_0_69 rec7 rec17 rec K n) K v u k t w F B) Q := fun F B q' hv => by
      unfold f_M_between_0_111
      refine zS_b (s_flt1 b0.1 q' (by unfold r32; omega) (by unfold r32; omega) (by unfold r32; omega) (by unfold r32; omega)) ?_
      intro _ F1 B1 q1
      exact nx F1 B1 q1 hv
    rw [f_M_between_0_69]
    refine zS_g b0.1 ?_
    refine zS_g (by unfold r32; omega) ?_
    refine zS_g (by unfold r32; omega) ?_
    refine zS_i (fun h => ?_) (fun h => ?_)
    · unfold f_M_between_0_127
      exact hrec F B q
    · refine zS_g (by unfold r32; omega) ?_
      refine zS_i (fun h2 => ?_) (fun h2 => ?_)
      · refine zS_b (s_isCrossed (K := K) hR hM hK t0 (by first | decide | omega) u0 u1 v0 (by first | decide | omega)) ?_
        rintro r F B ⟨rfl, rfl, hr⟩
        refine zS_g (by unfold r32; omega) ?_
        refine zS_i (fun h3 => ?_) (fun h3 => ?_)
        · exact nx _ _ q (by first | decide | omega)
        · exact ft _ _ q (by first | decide | omega)
      · refine zS_b (s_isParallel (K := K) hR hM hK t0 (by first | decide | omega) u0 u1 v0 (by first | decide | omega) (by unfold r32; omega)) ?_
        rintro r F B ⟨rfl, rfl, hr⟩
        refine zS_g (by unfold r32; omega) ?_
        refine zS_i (fun h3 => ?_) (fun h3 => ?_)
        · exact nx _ _ q (by first | decide | omega)
        · exact ft _ _ q (by first | decide | omega)
theorem s_btw26 {K : Nat} {V w t k : Int} {F0 : zF} {B0 : zB} {rec7 : Int → Int → zF → zB → zO} {rec : Int → Int → Int → zF → zB → zO} {Q : Int → zF → zB → Prop} (hK : 1000 ≤ K) (hR0 : RDW V w F0 B0) (hM0 : MW5 V w F0 B0) (t0 : 1 ≤ t) (t1 : t < F0 13 w 72) (k0 : 1 ≤ k ∧ k ≤ 7) (hrec : ∀ F B, BQ w F0 F B0 B → zS (rec (k + 1) t w F B) Q) : ∀ (n : Nat) (u : Int) (F : zF) (B : zB), BQ w F0 F B0 B → 0 ≤ u → u ≤ V → V - u < n → zS (f_M_between_0_26 rec7 rec K n u k t w F B) Q := by
  have b0 := rd_0 hR0
  have mm := hM0.1
  intro n
  induction n with
  | zero => intro v F B _ _ _ hn; exfalso; omega
  | succ n ih =>
    intro u F B q u0 u1 hn
    have hR := RDW_b hR0 q
    have hM := MW5_b hM0 q
    have e1 := q.1 13 w 1 (by first | decide | omega)
    have e72 := q.1 13 w 72 (by first | decide | omega)
    rw [f_M_between_0_26]
    refine zS_g b0.1 ?_
    refine zS_g (by unfold r32; omega) ?_
    refine zS_g (by unfold r32; omega) ?_
    refine zS_i (fun h => ?_) (fun h => ?_)
    · exact hrec F B q
    · refine zS_g (by unfold r32; omega) ?_
      refine zS_i (fun h2 => ?_) (fun h2 => ?_)
      · exact s_btw69 hK hR0 hM0 t0 t1 k0 u0 (by first | decide | omega) (fun F B q' => ih (u + 1) F B q' (by first | decide | omega) (by first | decide | omega) (by first | decide | omega)) K (u + 1) F B q (by first | decide | omega) (by first | decide | omega) (by first | decide | omega)
      · refine zS_b (s_isAlone (K := K) hR hM hK t0 (by first | decide | omega) u0 (by first | decide | omega) (by unfold r32; omega)) ?_
        rintro r F B ⟨rfl, rfl, hr⟩
        refine zS_g (by unfold r32; omega) ?_
        refine zS_i (fun h3 => ?_) (fun h3 => ?_)
        · unfold f_M_between_0_127
          exact ih (u + 1) _ _ q (by first | decide | omega) (by first | decide | omega) (by first | decide | omega)
        · refine zS_b (s_flt1 b0.1 q (by unfold r32; omega) (by unfold r32; omega) (by unfold r32; omega) (by decide)) ?_
          intro _ F1 B1 q1
          unfold f_M_between_0_127
          exact ih (u + 1) _ _ q1 (by first | decide | omega) (by first | decide | omega) (by first | decide | omega)
theorem s_btw17 {K : Nat} {V w t : Int} {F0 : zF} {B0 : zB} {rec : Int → Int → zF → zB → zO} {Q : Int → zF → zB → Prop} (hK : 1000 ≤ K) (hR0 : RDW V w F0 B0) (hM0 : MW5 V w F0 B0) (t0 : 1 ≤ t) (t1 : t < F0 13 w 72) (hrec : ∀ F B, BQ w F0 F B0 B → zS (rec (t + 1) w F B) Q) : ∀ (n : Nat) (k : Int) (F : zF) (B : zB), BQ w F0 F B0 B → 1 ≤ k → k ≤ 7 → 7 - k < n → zS (f_M_between_0_17 rec K n k t w F B) Q := by
  have b0 := rd_0 hR0
  intro n
  induction n with
  | zero => intro v F B _ _ _ hn; exfalso; omega
  | succ n ih =>
    intro k F B q k0 k1 hn
    rw [f_M_between_0_17]
    refine zS_g (by unfold r32; omega) ?_
    refine zS_i (fun h => ?_) (fun h => ?_)
    · exact hrec F B q
    · exact s_btw26 hK hR0 hM0 t0 t1 ⟨k0, k1⟩ (fun F B q' => ih (k + 1) F B q' (by first | decide | omega) (by first | decide | omega) (by first | decide | omega)) K 0 F B q (by decide) (by first | decide | omega) (by first | decide | omega)
theorem s_btw7 {K : Nat} {V w : Int} {F0 : zF} {B0 : zB} (hK : 1000 ≤ K) (hR0 : RDW V w F0 B0) (hM0 : MW5 V w F0 B0) : ∀ (n : Nat) (t : Int) (F : zF) (B : zB), BQ w F0 F B0 B → 1 ≤ t → t ≤ 801 → 801 - t < n → zS (f_M_between_0_7 K n t w F B) (fun _ F' B' => BQ w F0 F' B0 B') := by
  have b0 := rd_0 hR0
  have mm := hM0.1
  intro n
  induction n with
  | zero => intro t F B q t0 t1 hn; exfalso; omega
  | succ n ih =>
    intro t F B q t0 t1 hn
    have e72 := q.1 13 w 72 (by first | decide | omega)
    rw [f_M_between_0_7]
    refine zS_g b0.1 ?_
    refine zS_g (by unfold r32; omega) ?_
    refine zS_g (by unfold r32; omega) ?_
    refine zS_i (fun h => ?_) (fun h => ?_)
    · exact zS_s q
    · exact s_btw17 hK hR0 hM0 t0 (by first | decide | omega) (fun F B q' => ih (t + 1) F B q' (by first | decide | omega) (by first | decide | omega) (by first | decide | omega)) K 1 F B q (by decide) (by decide) (by first | decide | omega)
theorem s_between {K : Nat} {V w : Int} {F : zF} {B : zB} (hK : 1000 ≤ K) (hR : RDW V w F B) (hM : MW5 V w F B) (hX : X77 B) : zS (f_M_between_0 K w F B) (fun _ F' B' => BQ w F F' B B') := by
  have b0 := rd_0 hR
  unfold f_M_between_0
  refine zS_g b0.1 ?_
  exact s_btw7 hK hR hM K 1 _ B ⟨fun c i k n => by rw [zup3_v, if_neg n], by rw [zup3_v, if_pos (by first | decide | omega)]; decide, fun _ _ _ _ _ => rfl, hX⟩ (by decide) (by decide) (by first | decide | omega)
end
end
section
section
/-! ===== lines and faults, purely; the reference's, exactly ===== -/
theorem L_tnW {K : Nat} {s a : Int} {F : zF} {B : zB} (h0 : 0 ≤ s) (h1 : s ≤ 62) : f_M_tone K s a F B = some (tnv s + a, F, B) := by
  rw [L_tone h0 (by first | decide | omega)]
  rfl
theorem tnv_w {s a : Int} (h0 : 0 ≤ s) (h1 : s ≤ 62) (a0 : -2 ≤ a) (a1 : a ≤ 2) : 0 ≤ tnv s + a ∧ tnv s + a ≤ 127 := by
  unfold tnv
  split <;> omega
def tpN (tn : Int → Int) : Nat → Int → Int → Int
  | 0, _, l => l
  | d + 1, i, l => tpN tn d (i + 1) (if l = -1 then i else if tn i < tn l then l else i)
theorem tpN_b {tn : Int → Int} : ∀ (d : Nat) (i l : Int), 0 ≤ i → -1 ≤ l → l < i → -1 ≤ tpN tn d i l ∧ tpN tn d i l < i + d ∧ (0 ≤ l ∨ 0 < d → 0 ≤ tpN tn d i l) := by
  intro d
  induction d with
  | zero => intro i l i0 l0 l1; rw [tpN]; omega
  | succ d ih =>
    intro i l i0 l0 l1
    rw [tpN]
    by_cases c : l = -1
    · rw [if_pos c]
      have := ih (i + 1) i (by first | decide | omega) (by first | decide | omega) (by first | decide | omega)
      omega
    · rw [if_neg c]
      by_cases c1 : tn i < tn l
      · rw [if_pos c1]
        have := ih (i + 1) l (by first | decide | omega) (by first | decide | omega) (by first | decide | omega)
        omega
      · rw [if_neg c1]
        have := ih (i + 1) i (by first | decide | omega) (by first | decide | omega) (by first | decide | omega)
        omega
/-- tones of an event's pitches, which is its line, the line's tone and step -/
def tnS (S : zV) (u i j : Int) : Int := tnv (S u 3 i j) + S u 4 i j
def tpS (S : zV) (u i : Int) : Int := tpN (tnS S u i) (S u 2 i 0).toNat 0 (-1)
def lT (S : zV) (u i : Int) : Int := if tpS S u i = -1 then -1 else tnS S u i (tpS S u i)
def lS (S : zV) (u i : Int) : Int := if tpS S u i = -1 then -1 else S u 3 i (tpS S u i)
theorem tpS_b {V u i : Int} {S : zV} (h : SG V S) (u0 : 0 ≤ u) (u1 : u < V) (i0 : 0 ≤ i) (i1 : i < S u 0 0 0) : tpS S u i = -1 ∨ (0 ≤ tpS S u i ∧ tpS S u i < S u 2 i 0) := by
  have c := ((h.2 u u0 u1).2.2.1 i i0 i1).2.1
  have := tpN_b (tn := tnS S u i) (S u 2 i 0).toNat 0 (-1) (by decide) (by decide) (by decide)
  unfold tpS
  omega
theorem lTS_b {V u i : Int} {S : zV} (h : SG V S) (u0 : 0 ≤ u) (u1 : u < V) (i0 : 0 ≤ i) (i1 : i < S u 0 0 0) : (lT S u i = -1 ∧ lS S u i = -1) ∨ ((0 ≤ lT S u i ∧ lT S u i ≤ 127) ∧ 0 ≤ lS S u i ∧ lS S u i ≤ 62) := by
  unfold lT lS
  rcases tpS_b h u0 u1 i0 i1 with z | ⟨z0, z1⟩
  · rw [if_pos z, if_pos z]; exact Or.inl ⟨rfl, rfl⟩
  · obtain ⟨k1, k2⟩ := ((h.2 u u0 u1).2.2.1 i i0 i1).2.2 (tpS S u i) z0 z1
    have t := tnv_w k1.1 k1.2 k2.1 k2.2
    rw [if_neg (by first | decide | omega), if_neg (by first | decide | omega)]
    exact Or.inr ⟨t, k1⟩
/-- 1: primes and octaves, 2: fifths -/
def pcV (su tu sv tv : Int) : Int := if (if tu < tv then sv - su else su - sv) % 7 = 0 ∧ (if tu < tv then tv - tu else tu - tv) % 12 = 0 then 1 else if (if tu < tv then sv - su else su - sv) % 7 = 4 ∧ (if tu < tv then tv - tu else tu - tv) % 12 = 7 then 2 else 0
theorem pcV_b {su tu sv tv : Int} : 0 ≤ pcV su tu sv tv ∧ pcV su tu sv tv ≤ 2 := by
  unfold pcV
  generalize (if tu < tv then sv - su else su - sv) % 7 = a
  generalize (if tu < tv then tv - tu else tu - tv) % 12 = b
  split
  · omega
  · split <;> omega
def ovV (tu tv : Int) : Int := if 0 ≤ tu ∧ 0 ≤ tv ∧ tu < tv then 1 else 0
theorem ovV_b {tu tv : Int} : ovV tu tv = 0 ∨ ovV tu tv = 1 := by
  unfold ovV
  split
  · exact Or.inr rfl
  · exact Or.inl rfl
/-- a fault of two voices: kinds 1, 2, 3 -/
def q3V (k su tu sv tv su' tu' sv' tv' bu bv : Int) : Int := if 0 ≤ tu ∧ 0 ≤ tv ∧ 0 ≤ tu' ∧ 0 ≤ tv' ∧ bu = 1 ∧ bv = 1 ∧ ((tu' < tu ∧ tv' < tv) ∨ (tu < tu' ∧ tv < tv')) then (if k < 3 then (if pcV su tu sv tv = k ∧ pcV su' tu' sv' tv' = k then 1 else 0) else if 0 < pcV su tu sv tv ∧ ¬ pcV su' tu' sv' tv' = pcV su tu sv tv ∧ (2 < (if tu < tv then sv - sv' else su - su') ∨ (if tu < tv then sv - sv' else su - su') < -2) then 1 else 0) else 0
def q2V (k su tu sv tv su' tu' sv' tv' bu bv : Int) : Int := if k = 4 then (if ovV tu tv = 1 ∧ ovV tu' tv' = 0 then 1 else 0) else q3V k su tu sv tv su' tu' sv' tv' bu bv
def plV (s t : Int) : Int := if s = 0 then (if t = 0 then 1 else 0) else if s = 1 then (if t = 1 ∨ t = 2 then 1 else 0) else if s = 2 then (if t = 3 ∨ t = 4 then 1 else 0) else if s = 3 then (if t = 5 then 1 else 0) else if s = 4 then (if t = 7 then 1 else 0) else if s = 5 then (if t = 8 ∨ t = 9 then 1 else 0) else (if t = 10 ∨ t = 11 then 1 else 0)
def q1V (k su tu su' tu' bu : Int) : Int := if 0 ≤ tu ∧ 0 ≤ tu' ∧ bu = 1 then (if k = 5 then (if 7 < (if su < su' then su' - su else su - su') then 1 else 0) else if plV ((if su < su' then su' - su else su - su') % 7) ((if su < su' ∨ (su = su' ∧ tu < tu') then tu' - tu else tu - tu') % 12) = 0 then 1 else 0) else 0
theorem q3V_b {k su tu sv tv su' tu' sv' tv' bu bv : Int} : q3V k su tu sv tv su' tu' sv' tv' bu bv = 0 ∨ q3V k su tu sv tv su' tu' sv' tv' bu bv = 1 := by
  unfold q3V
  generalize pcV su tu sv tv = a
  generalize pcV su' tu' sv' tv' = b
  generalize (if tu < tv then sv - sv' else su - su') = g
  split
  · split
    · split <;> omega
    · split <;> omega
  · exact Or.inl rfl
theorem q2V_b {k su tu sv tv su' tu' sv' tv' bu bv : Int} : q2V k su tu sv tv su' tu' sv' tv' bu bv = 0 ∨ q2V k su tu sv tv su' tu' sv' tv' bu bv = 1 := by
  unfold q2V
  split
  · split
    · exact Or.inr rfl
    · exact Or.inl rfl
  · exact q3V_b
theorem q1V_b {k su tu su' tu' bu : Int} : q1V k su tu su' tu' bu = 0 ∨ q1V k su tu su' tu' bu = 1 := by
  unfold q1V
  split
  · split
    · split <;> omega
    · split <;> omega
  · exact Or.inl rfl
section
variable {K : Nat} {V w : Int} {S : zV} {F : zF} {B : zB}
theorem x_ln7 {u i : Int} (hS : SG V S) (hR : SRm V w S F B) (u0 : 0 ≤ u) (u1 : u < V) (i0 : 0 ≤ i) (i1 : i < S u 0 0 0) : ∀ (d n : Nat) (j l : Int), j + d = S u 2 i 0 → 0 ≤ j → d < n → -1 ≤ l → l < j → f_M_lineOf_7 K n (6 * (1000 * u + i) + j) (if l = -1 then -1 else 6 * (1000 * u + i) + l) w (1000 * u + i) F B = some (if tpN (tnS S u i) d j l = -1 then -1 else 6 * (1000 * u + i) + tpN (tnS S u i) d j l, F, B) := by
  have v4 := hS.1
  have w0 := hR.1
  obtain ⟨g1, _, g3, _⟩ := hS.2 u u0 u1
  obtain ⟨_, c6, gp⟩ := g3 i i0 i1
  obtain ⟨_, r2⟩ := hR.2.2 u u0 u1
  obtain ⟨_, _, e21, rp⟩ := r2 i i0 i1
  have xb : 0 ≤ 1000 * u + i ∧ 1000 * u + i < 4000 := by omega
  intro d
  induction d with
  | zero =>
    intro n j l jd j0 hn l0 l1
    obtain ⟨n, rfl⟩ : ∃ p, n = p + 1 := ⟨n - 1, (by first | decide | omega)⟩
    rw [f_M_lineOf_7, if_pos w0, if_pos xb, if_pos (show r32 (6 * (1000 * u + i) + j) by unfold r32; omega), e21, if_pos (show r32 (6 * (1000 * u + i) + S u 2 i 0) by unfold r32; omega), if_pos (show 6 * (1000 * u + i) + S u 2 i 0 ≤ 6 * (1000 * u + i) + j by omega), tpN]
  | succ d ih =>
    intro n j l jd j0 hn l0 l1
    obtain ⟨n, rfl⟩ : ∃ p, n = p + 1 := ⟨n - 1, (by first | decide | omega)⟩
    have a := ih n (j + 1) j (by first | decide | omega) (by first | decide | omega) (by first | decide | omega) (by first | decide | omega) (by first | decide | omega)
    rw [if_neg (show ¬ j = -1 by omega), ← Int.add_assoc] at a
    rw [f_M_lineOf_7, if_pos w0, if_pos xb, if_pos (show r32 (6 * (1000 * u + i) + j) by unfold r32; omega), e21, if_pos (show r32 (6 * (1000 * u + i) + S u 2 i 0) by unfold r32; omega), if_neg (show ¬ 6 * (1000 * u + i) + S u 2 i 0 ≤ 6 * (1000 * u + i) + j by omega), tpN]
    by_cases c : l = -1
    · rw [if_pos c, if_pos c, if_pos (show r32 (-1) by decide), if_pos (show (-1 : Int) < 0 by decide), f_M_lineOf_59, f_M_lineOf_61]
      exact a
    · have b := ih n (j + 1) l (by first | decide | omega) (by first | decide | omega) (by first | decide | omega) (by first | decide | omega) (by first | decide | omega)
      rw [if_neg c, ← Int.add_assoc] at b
      obtain ⟨p1, p2⟩ := rp j j0 (by first | decide | omega)
      obtain ⟨q1, q2⟩ := rp l (by first | decide | omega) (by first | decide | omega)
      obtain ⟨s1, s2⟩ := gp j j0 (by first | decide | omega)
      obtain ⟨t1, t2⟩ := gp l (by first | decide | omega) (by first | decide | omega)
      have m1 := tnv_w s1.1 s1.2 s2.1 s2.2
      have m2 := tnv_w t1.1 t1.2 t2.1 t2.2
      rw [if_neg c, if_neg c, if_pos (show r32 (6 * (1000 * u + i) + l) by unfold r32; omega), if_neg (show ¬ 6 * (1000 * u + i) + l < 0 by omega), if_pos (show 0 ≤ 6 * (1000 * u + i) + j ∧ 6 * (1000 * u + i) + j < 24000 by omega), p1, p2, L_tnW s1.1 s1.2, zb_s, if_pos (show 0 ≤ 6 * (1000 * u + i) + l ∧ 6 * (1000 * u + i) + l < 24000 by omega), q1, q2, L_tnW t1.1 t1.2, zb_s, if_pos (show r32 (tnv (S u 3 i j) + S u 4 i j) by unfold r32; omega), if_pos (show r32 (tnv (S u 3 i l) + S u 4 i l) by unfold r32; omega)]
      by_cases c1 : tnS S u i j < tnS S u i l
      · have c2 : tnv (S u 3 i j) + S u 4 i j < tnv (S u 3 i l) + S u 4 i l := c1
        rw [if_pos c1, if_pos c2, f_M_lineOf_61]
        exact b
      · have c2 : ¬ tnv (S u 3 i j) + S u 4 i j < tnv (S u 3 i l) + S u 4 i l := c1
        rw [if_neg c1, if_neg c2, f_M_lineOf_59, f_M_lineOf_61]
        exact a
/-- a slot r holds the line: tone t, step s; or there is none -/
def LNv (w : Int) (B : zB) (r t s : Int) : Prop := (r = -1 ∧ t = -1 ∧ s = -1) ∨ ((0 ≤ r ∧ r < 24000) ∧ B 13 w 28 r = s ∧ tnv s + B 13 w 29 r = t ∧ (0 ≤ s ∧ s ≤ 62) ∧ 0 ≤ t ∧ t ≤ 127)
theorem x_lineAt {u t i : Int} (hK : 100 ≤ K) (hS : SG V S) (hR : SRm V w S F B) (u0 : 0 ≤ u) (u1 : u < V) (t0 : 0 ≤ t) (t1 : t < 800) (ei : B 13 w 75 (4 * t + u) = i) (i0 : 0 ≤ i) (i1 : i < S u 0 0 0) : ∃ r, f_M_lineAt K w t u F B = some (r, F, B) ∧ LNv w B r (lT S u i) (lS S u i) := by
  have v4 := hS.1
  obtain ⟨g1, _, g3, _⟩ := hS.2 u u0 u1
  obtain ⟨_, c6, gp⟩ := g3 i i0 i1
  obtain ⟨_, r2⟩ := hR.2.2 u u0 u1
  obtain ⟨_, _, _, rp⟩ := r2 i i0 i1
  have e := x_ln7 (K := K) hS hR u0 u1 i0 i1 (S u 2 i 0).toNat K 0 (-1) (by first | decide | omega) (by decide) (by first | decide | omega) (by decide) (by decide)
  rw [if_pos rfl, Int.add_zero] at e
  have e' : f_M_lineOf K w (1000 * u + i) F B = some (if tpS S u i = -1 then -1 else 6 * (1000 * u + i) + tpS S u i, F, B) := e
  unfold f_M_lineAt
  rw [if_pos hR.1, if_pos (by first | decide | omega), ei, e', zb_s]
  refine ⟨_, rfl, ?_⟩
  unfold lT lS LNv
  rcases tpS_b hS u0 u1 i0 i1 with z | ⟨z0, z1⟩
  · rw [if_pos z, if_pos z, if_pos z]; exact Or.inl ⟨rfl, rfl, rfl⟩
  · obtain ⟨k1, k2⟩ := gp (tpS S u i) z0 z1
    obtain ⟨p1, p2⟩ := rp (tpS S u i) z0 z1
    have tb := tnv_w k1.1 k1.2 k2.1 k2.2
    rw [if_neg (show ¬ tpS S u i = -1 by omega), if_neg (show ¬ tpS S u i = -1 by omega), if_neg (show ¬ tpS S u i = -1 by omega), p1, p2]
    exact Or.inr ⟨(by first | decide | omega), rfl, rfl, k1, tb⟩
theorem x_toneAt {r t s : Int} (w0 : 0 ≤ w ∧ w < 3) (h : LNv w B r t s) (t0 : 0 ≤ t) : f_M_toneAt K w r F B = some (t, F, B) := by
  rcases h with ⟨_, z, _⟩ | ⟨a, b, c, d, _⟩
  · omega
  · unfold f_M_toneAt
    rw [if_pos w0, if_pos a, b, L_tnW d.1 d.2, zb_s, c]
theorem LNv_r {r t s : Int} (h : LNv w B r t s) : (r < 0 ↔ t < 0) ∧ r32 r ∧ (-1 ≤ t ∧ t ≤ 127) ∧ (-1 ≤ s ∧ s ≤ 62) ∧ (0 ≤ t → (0 ≤ r ∧ r < 24000) ∧ B 13 w 28 r = s ∧ 0 ≤ s) := by
  unfold r32
  rcases h with ⟨x, y, z⟩ | ⟨a, b, c, d, e⟩
  · refine ⟨(by first | decide | omega), (by first | decide | omega), (by first | decide | omega), (by first | decide | omega), fun k => (by first | decide | omega)⟩
  · refine ⟨(by first | decide | omega), (by first | decide | omega), (by first | decide | omega), (by first | decide | omega), fun k => ⟨a, b, d.1⟩⟩
theorem x_perf {a b ta sa tb sb : Int} (w0 : 0 ≤ w ∧ w < 3) (ha : LNv w B a ta sa) (hb : LNv w B b tb sb) (a0 : 0 ≤ ta) (b0 : 0 ≤ tb) : f_M_perfect K w a b F B = some (pcV sa ta sb tb, F, B) := by
  have ra := LNv_r ha
  have rb := LNv_r hb
  obtain ⟨xa, ya, za⟩ := ra.2.2.2.2 a0
  obtain ⟨xb, yb, zb⟩ := rb.2.2.2.2 b0
  have d1 : r32 (1 : Int) := by decide
  have d0 : r32 (0 : Int) := by decide
  -- behind the choice of the higher
  have key : ∀ h l th sh tl sl : Int, (0 ≤ h ∧ h < 24000) → (0 ≤ l ∧ l < 24000) → B 13 w 28 h = sh → B 13 w 28 l = sl → LNv w B h th sh → LNv w B l tl sl → 0 ≤ th → 0 ≤ tl → f_M_perfect_39 K h w l F B = some (if (sh - sl) % 7 = 0 ∧ (th - tl) % 12 = 0 then 1 else if (sh - sl) % 7 = 4 ∧ (th - tl) % 12 = 7 then 2 else 0, F, B) := fun h l th sh tl sl hh hl eh el nh nl h0 l0 => by
    have rh := LNv_r nh
    have rl := LNv_r nl
    have m7 : 0 ≤ (sh - sl) % 7 ∧ (sh - sl) % 7 < 7 := by omega
    have m12 : 0 ≤ (th - tl) % 12 ∧ (th - tl) % 12 < 12 := by omega
    unfold f_M_perfect_39 f_M_perfect_97 f_M_perfect_114 f_M_perfect_115
    rw [if_pos w0, if_pos hh, if_pos hl, eh, el, L_mod (by unfold r32; omega) (by decide) (by decide), zb_s, x_toneAt w0 nh h0, zb_s, x_toneAt w0 nl l0, zb_s, L_mod (by unfold r32; omega) (by decide) (by decide), zb_s]
    generalize (sh - sl) % 7 = p at m7 ⊢
    generalize (th - tl) % 12 = q at m12 ⊢
    have rp : r32 p := by unfold r32; omega
    have rq : r32 q := by unfold r32; omega
    by_cases c1 : p = 0
    · by_cases c2 : q = 0
      · rw [if_pos rp, if_pos c1, if_pos rq, if_pos c2, if_pos ⟨c1, c2⟩]
      · rw [if_pos rp, if_pos c1, if_pos rq, if_neg c2, if_pos rp, if_neg (show ¬ p = 4 by omega), if_neg (show ¬ (p = 0 ∧ q = 0) from fun z => c2 z.2), if_neg (show ¬ (p = 4 ∧ q = 7) by omega)]
    · rw [if_pos rp, if_neg c1, if_pos rp, if_neg (show ¬ (p = 0 ∧ q = 0) from fun z => c1 z.1)]
      by_cases c3 : p = 4
      · by_cases c4 : q = 7
        · rw [if_pos c3, if_pos rq, if_pos c4, if_pos ⟨c3, c4⟩]
        · rw [if_pos c3, if_pos rq, if_neg c4, if_neg (show ¬ (p = 4 ∧ q = 7) from fun z => c4 z.2)]
      · rw [if_neg c3, if_neg (show ¬ (p = 4 ∧ q = 7) from fun z => c3 z.1)]
  unfold f_M_perfect f_M_perfect_18 f_M_perfect_28
  rw [x_toneAt w0 ha a0, zb_s, x_toneAt w0 hb b0, zb_s, if_pos (show r32 ta by unfold r32; omega), if_pos (show r32 tb by unfold r32; omega)]
  unfold pcV
  by_cases c : ta < tb
  · rw [if_pos c, if_pos c, if_pos c, if_pos d0, if_pos (show (0 : Int) = 0 from rfl), if_pos d0, if_pos (show (0 : Int) = 0 from rfl)]
    exact key b a tb sb ta sa xb xa yb ya hb ha b0 a0
  · rw [if_neg c, if_neg c, if_neg c, if_pos d1, if_neg (show ¬ (1 : Int) = 0 by decide), if_pos d1, if_neg (show ¬ (1 : Int) = 0 by decide)]
    exact key a b ta sa tb sb xa xb ya yb ha hb a0 b0
theorem x_over {a b ta sa tb sb : Int} (w0 : 0 ≤ w ∧ w < 3) (ha : LNv w B a ta sa) (hb : LNv w B b tb sb) : f_M_isOver K w a b F B = some (ovV ta tb, F, B) := by
  have ra := LNv_r ha
  have rb := LNv_r hb
  unfold f_M_isOver f_M_isOver_25 f_M_isOver_26 ovV
  rw [if_pos ra.2.1]
  by_cases c1 : a < 0
  · rw [if_pos c1, if_pos (Or.inl rfl), if_neg (by first | decide | omega)]
  · rw [if_neg c1, if_pos rb.2.1]
    by_cases c2 : b < 0
    · rw [if_pos c2, if_pos (Or.inl rfl), if_neg (by first | decide | omega)]
    · rw [if_neg c2, x_toneAt w0 hb (by first | decide | omega), zb_s, x_toneAt w0 ha (by first | decide | omega), zb_s, if_pos (show r32 tb by unfold r32; omega), if_pos (show r32 ta by unfold r32; omega)]
      by_cases c3 : tb ≤ ta
      · rw [if_pos c3, if_pos (Or.inl rfl), if_neg (by first | decide | omega)]
      · rw [if_neg c3, if_pos (Or.inr rfl), if_pos (by first | decide | omega)]
theorem x_cross {m u v a b c d ta sa tb sb tc sc td sd : Int} (w0 : 0 ≤ w ∧ w < 3) (ea : f_M_lineAt K w m u F B = some (a, F, B)) (eb : f_M_lineAt K w m v F B = some (b, F, B)) (ec : f_M_lineAt K w (m - 1) u F B = some (c, F, B)) (ed : f_M_lineAt K w (m - 1) v F B = some (d, F, B)) (ha : LNv w B a ta sa) (hb : LNv w B b tb sb) (hc : LNv w B c tc sc) (hd : LNv w B d td sd) : f_M_isCrossed K w m u v F B = some (if ovV ta tb = 1 ∧ ovV tc td = 0 then 1 else 0, F, B) := by
  have o1 := ovV_b (tu := ta) (tv := tb)
  have o2 := ovV_b (tu := tc) (tv := td)
  unfold f_M_isCrossed f_M_isCrossed_46 f_M_isCrossed_47
  rw [ea, zb_s, eb, zb_s, x_over w0 ha hb, zb_s]
  generalize ovV ta tb = x at o1 ⊢
  rw [if_pos (show r32 x by unfold r32; omega)]
  by_cases z : x = 0
  · rw [if_pos z, if_pos (Or.inl rfl), if_neg (by first | decide | omega)]
  · rw [if_neg z, ec, zb_s, ed, zb_s, x_over w0 hc hd, zb_s]
    generalize ovV tc td = y at o2 ⊢
    rw [if_pos (show r32 y by unfold r32; omega)]
    by_cases z' : y = 0
    · rw [if_pos z', if_pos (Or.inr rfl), if_pos (by first | decide | omega)]
    · rw [if_neg z', if_pos (Or.inl rfl), if_neg (by first | decide | omega)]
theorem x_par {m k u v a b c d ta sa tb sb tc sc td sd bu bv : Int} (w0 : 0 ≤ w ∧ w < 3) (k0 : 1 ≤ k ∧ k ≤ 3) (ea : f_M_lineAt K w m u F B = some (a, F, B)) (eb : f_M_lineAt K w m v F B = some (b, F, B)) (ec : f_M_lineAt K w (m - 1) u F B = some (c, F, B)) (ed : f_M_lineAt K w (m - 1) v F B = some (d, F, B)) (ha : LNv w B a ta sa) (hb : LNv w B b tb sb) (hc : LNv w B c tc sc) (hd : LNv w B d td sd) (eu : f_M_beginsAt K w m u F B = some (bu, F, B)) (ev : f_M_beginsAt K w m v F B = some (bv, F, B)) (hu : bu = 0 ∨ bu = 1) (hv : bv = 0 ∨ bv = 1) : f_M_isParallel K w m k u v F B = some (q3V k sa ta sb tb sc tc sd td bu bv, F, B) := by
  have ra := LNv_r ha
  have rb := LNv_r hb
  have rc := LNv_r hc
  have rd := LNv_r hd
  have d1 : r32 (1 : Int) := by decide
  have d0 : r32 (0 : Int) := by decide
  have no : ¬ (0 ≤ ta ∧ 0 ≤ tb ∧ 0 ≤ tc ∧ 0 ≤ td ∧ bu = 1 ∧ bv = 1 ∧ ((tc < ta ∧ td < tb) ∨ (ta < tc ∧ tb < td))) → q3V k sa ta sb tb sc tc sd td bu bv = 0 := fun z => by unfold q3V; rw [if_neg z]
  unfold f_M_isParallel f_M_isParallel_77
  rw [ea, zb_s, eb, zb_s, ec, zb_s, ed, zb_s, if_pos ra.2.1]
  by_cases c1 : a < 0
  · rw [if_pos c1, no (by first | decide | omega)]
  rw [if_neg c1, if_pos rb.2.1]
  by_cases c2 : b < 0
  · rw [if_pos c2, no (by first | decide | omega)]
  rw [if_neg c2, if_pos rc.2.1]
  by_cases c3 : c < 0
  · rw [if_pos c3, no (by first | decide | omega)]
  rw [if_neg c3, if_pos rd.2.1]
  by_cases c4 : d < 0
  · rw [if_pos c4, no (by first | decide | omega)]
  rw [if_neg c4, eu, zb_s, if_pos (show r32 bu by unfold r32; omega)]
  by_cases c5 : bu = 0
  · rw [if_pos c5, no (by first | decide | omega)]
  rw [if_neg c5, ev, zb_s, if_pos (show r32 bv by unfold r32; omega)]
  by_cases c6 : bv = 0
  · rw [if_pos c6, no (by first | decide | omega)]
  have a0 : 0 ≤ ta := by omega
  have b0 : 0 ≤ tb := by omega
  have cc0 : 0 ≤ tc := by omega
  have dd0 : 0 ≤ td := by omega
  obtain ⟨xa, ya, za⟩ := ra.2.2.2.2 a0
  obtain ⟨xb, yb, zb⟩ := rb.2.2.2.2 b0
  obtain ⟨xc, yc, zc⟩ := rc.2.2.2.2 cc0
  obtain ⟨xd, yd, zd⟩ := rd.2.2.2.2 dd0
  -- not the same way
  have stop : ¬ ((tc < ta ∧ td < tb) ∨ (ta < tc ∧ tb < td)) → f_M_isParallel_134 K d c b a w k 0 F B = some (q3V k sa ta sb tb sc tc sd td bu bv, F, B) := fun z => by
    unfold f_M_isParallel_134
    rw [if_pos d0, if_pos rfl, no (by first | decide | omega)]
  -- the same way
  have go : ((tc < ta ∧ td < tb) ∨ (ta < tc ∧ tb < td)) → f_M_isParallel_134 K d c b a w k 1 F B = some (q3V k sa ta sb tb sc tc sd td bu bv, F, B) := fun z => by
    have pb := pcV_b (su := sa) (tu := ta) (sv := sb) (tv := tb)
    have pb' := pcV_b (su := sc) (tu := tc) (sv := sd) (tv := td)
    unfold f_M_isParallel_134 f_M_isParallel_184 f_M_isParallel_185 q3V
    rw [if_pos d1, if_neg (show ¬ (1 : Int) = 0 by decide), x_perf w0 ha hb a0 b0, zb_s, x_perf w0 hc hd cc0 dd0, zb_s, if_pos (show r32 k by unfold r32; omega), if_pos (show 0 ≤ ta ∧ 0 ≤ tb ∧ 0 ≤ tc ∧ 0 ≤ td ∧ bu = 1 ∧ bv = 1 ∧ ((tc < ta ∧ td < tb) ∨ (ta < tc ∧ tb < td)) by omega)]
    generalize pcV sa ta sb tb = p at pb ⊢
    generalize pcV sc tc sd td = q at pb' ⊢
    have e234 : ∀ g : Int, r32 g → f_M_isParallel_234 K q p g F B = some (if 0 < p ∧ ¬ q = p ∧ (2 < g ∨ g < -2) then 1 else 0, F, B) := fun g rg => by
      unfold f_M_isParallel_234 f_M_isParallel_261 f_M_isParallel_265 f_M_isParallel_266
      rw [if_pos (show r32 p by unfold r32; omega)]
      by_cases z1 : p ≤ 0
      · rw [if_pos z1, if_pos (Or.inl rfl), if_neg (by first | decide | omega)]
      rw [if_neg z1, if_pos (show r32 q by unfold r32; omega)]
      by_cases z2 : q = p
      · rw [if_pos z2, if_pos (Or.inl rfl), if_neg (by first | decide | omega)]
      rw [if_neg z2, if_pos rg]
      by_cases z3 : 2 < g
      · rw [if_pos z3, if_pos (Or.inr rfl), if_pos (by first | decide | omega)]
      rw [if_neg z3]
      by_cases z4 : -2 ≤ g
      · rw [if_pos z4, if_pos (Or.inl rfl), if_neg (by first | decide | omega)]
      · rw [if_neg z4, if_pos (Or.inr rfl), if_pos (by first | decide | omega)]
    by_cases c7 : 3 ≤ k
    · rw [if_pos c7, x_toneAt w0 ha a0, zb_s, x_toneAt w0 hb b0, zb_s, if_pos (show r32 ta by unfold r32; omega), if_pos (show r32 tb by unfold r32; omega), if_neg (show ¬ k < 3 by omega)]
      by_cases c8 : ta < tb
      · rw [if_pos c8, if_pos w0, if_pos xb, if_pos xd, yb, yd, e234 _ (by unfold r32; omega), if_pos c8]
      · rw [if_neg c8, if_pos w0, if_pos xa, if_pos xc, ya, yc, e234 _ (by unfold r32; omega), if_neg c8]
    · rw [if_neg c7, if_pos (show r32 p by unfold r32; omega), if_pos (show k < 3 by omega)]
      by_cases c8 : p = k
      · rw [if_pos c8, if_pos (show r32 q by unfold r32; omega)]
        by_cases c9 : q = k
        · rw [if_pos c9, if_pos (Or.inr rfl), if_pos ⟨c8, c9⟩]
        · rw [if_neg c9, if_pos (Or.inl rfl), if_neg (fun y => c9 y.2)]
      · rw [if_neg c8, if_pos (Or.inl rfl), if_neg (fun y => c8 y.1)]
  rw [if_neg c6, x_toneAt w0 ha a0, zb_s, x_toneAt w0 hc cc0, zb_s, x_toneAt w0 hb b0, zb_s, x_toneAt w0 hd dd0, zb_s, if_pos (show r32 (ta - tc) by unfold r32; omega)]
  have o119 : ¬ (tc < ta ∧ td < tb) → f_M_isParallel_119 K (tb - td) (ta - tc) d c b a w k F B = some (q3V k sa ta sb tb sc tc sd td bu bv, F, B) := fun z => by
    unfold f_M_isParallel_119 f_M_isParallel_129 f_M_isParallel_133
    rw [if_pos (show r32 (ta - tc) by unfold r32; omega)]
    by_cases z1 : 0 ≤ ta - tc
    · rw [if_pos z1]; exact stop (by first | decide | omega)
    rw [if_neg z1, if_pos (show r32 (tb - td) by unfold r32; omega)]
    by_cases z2 : 0 ≤ tb - td
    · rw [if_pos z2]; exact stop (by first | decide | omega)
    · rw [if_neg z2]; exact go (by first | decide | omega)
  by_cases z1 : ta - tc ≤ 0
  · rw [if_pos z1]; exact o119 (by first | decide | omega)
  rw [if_neg z1, if_pos (show r32 (tb - td) by unfold r32; omega)]
  by_cases z2 : 0 < tb - td
  · rw [if_pos z2]
    unfold f_M_isParallel_129
    exact go (by first | decide | omega)
  · rw [if_neg z2]; exact o119 (by first | decide | omega)
theorem x_plain {s t : Int} (s0 : 0 ≤ s ∧ s < 7) (t0 : 0 ≤ t ∧ t < 12) : f_M_isPlainStep K s t F B = some (plV s t, F, B) := by
  have rs : r32 s := by unfold r32; omega
  have rt : r32 t := by unfold r32; omega
  unfold f_M_isPlainStep f_M_isPlainStep_13 f_M_isPlainStep_29 f_M_isPlainStep_34 f_M_isPlainStep_50 f_M_isPlainStep_55 f_M_isPlainStep_71 f_M_isPlainStep_88 f_M_isPlainStep_106 f_M_isPlainStep_126 f_M_isPlainStep_131 plV
  rw [if_pos rs]
  by_cases c0 : s = 0
  · rw [if_pos c0, if_pos rt, if_pos c0]
    by_cases c : t = 0
    · rw [if_pos c, if_pos (Or.inr rfl), if_pos c]
    · rw [if_neg c, if_pos (Or.inl rfl), if_neg c]
  rw [if_neg c0, if_neg c0]
  by_cases c1 : s = 1
  · rw [if_pos c1, if_pos rt, if_pos c1]
    by_cases c : t = 1
    · rw [if_pos c, if_pos (Or.inr rfl), if_pos (Or.inl c)]
    rw [if_neg c]
    by_cases d : t = 2
    · rw [if_pos d, if_pos (Or.inr rfl), if_pos (Or.inr d)]
    · rw [if_neg d, if_pos (Or.inl rfl), if_neg (by first | decide | omega)]
  rw [if_neg c1, if_neg c1]
  by_cases c2 : s = 2
  · rw [if_pos c2, if_pos rt, if_pos c2]
    by_cases c : t = 3
    · rw [if_pos c, if_pos (Or.inr rfl), if_pos (Or.inl c)]
    rw [if_neg c]
    by_cases d : t = 4
    · rw [if_pos d, if_pos (Or.inr rfl), if_pos (Or.inr d)]
    · rw [if_neg d, if_pos (Or.inl rfl), if_neg (by first | decide | omega)]
  rw [if_neg c2, if_neg c2]
  by_cases c3 : s = 3
  · rw [if_pos c3, if_pos rt, if_pos c3]
    by_cases c : t = 5
    · rw [if_pos c, if_pos (Or.inr rfl), if_pos c]
    · rw [if_neg c, if_pos (Or.inl rfl), if_neg c]
  rw [if_neg c3, if_neg c3]
  by_cases c4 : s = 4
  · rw [if_pos c4, if_pos rt, if_pos c4]
    by_cases c : t = 7
    · rw [if_pos c, if_pos (Or.inr rfl), if_pos c]
    · rw [if_neg c, if_pos (Or.inl rfl), if_neg c]
  rw [if_neg c4, if_neg c4]
  by_cases c5 : s = 5
  · rw [if_pos c5, if_pos rt, if_pos c5]
    by_cases c : t = 8
    · rw [if_pos c, if_pos (Or.inr rfl), if_pos (Or.inl c)]
    rw [if_neg c]
    by_cases d : t = 9
    · rw [if_pos d, if_pos (Or.inr rfl), if_pos (Or.inr d)]
    · rw [if_neg d, if_pos (Or.inl rfl), if_neg (by first | decide | omega)]
  rw [if_neg c5, if_pos rt, if_neg c5]
  by_cases c : t = 10
  · rw [if_pos c, if_pos (Or.inr rfl), if_pos (Or.inl c)]
  rw [if_neg c]
  by_cases d : t = 11
  · rw [if_pos d, if_pos (Or.inr rfl), if_pos (Or.inr d)]
  · rw [if_neg d, if_pos (Or.inl rfl), if_neg (by first | decide | omega)]
theorem plV_b {s t : Int} : plV s t = 0 ∨ plV s t = 1 := by
  unfold plV
  (repeat' split) <;> omega
theorem x_alone {m k u a c ta sa tc sc bu : Int} (w0 : 0 ≤ w ∧ w < 3) (k0 : k = 5 ∨ k = 6) (ea : f_M_lineAt K w m u F B = some (a, F, B)) (ec : f_M_lineAt K w (m - 1) u F B = some (c, F, B)) (ha : LNv w B a ta sa) (hc : LNv w B c tc sc) (eu : f_M_beginsAt K w m u F B = some (bu, F, B)) (hu : bu = 0 ∨ bu = 1) : f_M_isAlone K w m k u F B = some (q1V k sa ta sc tc bu, F, B) := by
  have ra := LNv_r ha
  have rc := LNv_r hc
  have no : ¬ (0 ≤ ta ∧ 0 ≤ tc ∧ bu = 1) → q1V k sa ta sc tc bu = 0 := fun z => by unfold q1V; rw [if_neg z]
  unfold f_M_isAlone f_M_isAlone_37
  rw [ea, zb_s, ec, zb_s, if_pos ra.2.1]
  by_cases c1 : a < 0
  · rw [if_pos c1, no (by first | decide | omega)]
  rw [if_neg c1, if_pos rc.2.1]
  by_cases c3 : c < 0
  · rw [if_pos c3, no (by first | decide | omega)]
  rw [if_neg c3, eu, zb_s, if_pos (show r32 bu by unfold r32; omega)]
  by_cases c5 : bu = 0
  · rw [if_pos c5, no (by first | decide | omega)]
  have a0 : 0 ≤ ta := by omega
  have cc0 : 0 ≤ tc := by omega
  obtain ⟨xa, ya, za⟩ := ra.2.2.2.2 a0
  obtain ⟨xc, yc, zc⟩ := rc.2.2.2.2 cc0
  have o127 : ∀ g h : Int, 0 ≤ g → g ≤ 62 → r32 h → f_M_isAlone_127 K g h F B = some (if plV (g % 7) (h % 12) = 0 then 1 else 0, F, B) := fun g h g0 g1 rh => by
    have pb := plV_b (s := g % 7) (t := h % 12)
    unfold f_M_isAlone_127 f_M_isAlone_152
    rw [L_mod rh (by decide) (by decide), zb_s, zrm_e g0 (by unfold r32; omega) (by decide) (by decide), x_plain (by first | decide | omega) (by first | decide | omega), zb_s]
    generalize plV (g % 7) (h % 12) = p at pb ⊢
    rw [if_pos (show r32 p by unfold r32; omega)]
    by_cases z : p = 0
    · rw [if_pos z, if_pos (Or.inr rfl), if_pos z]
    · rw [if_neg z, if_pos (Or.inl rfl), if_neg z]
  have o69 : ∀ g : Int, g = (if sa < sc then sc - sa else sa - sc) → f_M_isAlone_69 K (sa - sc) c a w k g F B = some (q1V k sa ta sc tc bu, F, B) := fun g hg => by
    have gb : 0 ≤ g ∧ g ≤ 62 := by rw [hg]; split <;> omega
    unfold f_M_isAlone_69 f_M_isAlone_88 f_M_isAlone_119 f_M_isAlone_125 q1V
    rw [if_pos (show r32 k by unfold r32; omega), if_pos (show 0 ≤ ta ∧ 0 ≤ tc ∧ bu = 1 by omega), ← hg]
    by_cases c6 : k = 5
    · rw [if_pos c6, if_pos (show r32 g by unfold r32; omega), if_pos c6]
      by_cases c7 : g ≤ 7
      · rw [if_pos c7, if_pos (Or.inl rfl), if_neg (by first | decide | omega)]
      · rw [if_neg c7, if_pos (Or.inr rfl), if_pos (by first | decide | omega)]
    · rw [if_neg c6, x_toneAt w0 ha a0, zb_s, x_toneAt w0 hc cc0, zb_s, if_pos (show r32 (sa - sc) by unfold r32; omega), if_neg c6]
      by_cases c7 : sa - sc < 0
      · rw [if_pos c7, o127 g _ gb.1 gb.2 (by unfold r32; omega), if_pos (show sa < sc ∨ (sa = sc ∧ ta < tc) by omega), show -(ta - tc) = tc - ta by omega]
      rw [if_neg c7]
      by_cases c8 : sa - sc = 0
      · rw [if_pos c8, if_pos (show r32 (ta - tc) by unfold r32; omega)]
        by_cases c9 : 0 ≤ ta - tc
        · rw [if_pos c9, o127 g _ gb.1 gb.2 (by unfold r32; omega), if_neg (show ¬ (sa < sc ∨ (sa = sc ∧ ta < tc)) by omega)]
        · rw [if_neg c9, o127 g _ gb.1 gb.2 (by unfold r32; omega), if_pos (show sa < sc ∨ (sa = sc ∧ ta < tc) by omega), show -(ta - tc) = tc - ta by omega]
      · rw [if_neg c8, o127 g _ gb.1 gb.2 (by unfold r32; omega), if_neg (show ¬ (sa < sc ∨ (sa = sc ∧ ta < tc)) by omega)]
  rw [if_neg c5, if_pos w0, if_pos xa, if_pos xc, ya, yc, if_pos (show r32 (sa - sc) by unfold r32; omega)]
  by_cases c6 : 0 ≤ sa - sc
  · rw [if_pos c6]; exact o69 _ (by rw [if_neg (by first | decide | omega)])
  · rw [if_neg c6]; exact o69 _ (by rw [if_pos (by first | decide | omega)]; omega)
theorem x_begins {m u i i' : Int} (w0 : 0 ≤ w ∧ w < 3) (u0 : 0 ≤ u ∧ u < 4) (m0 : 1 ≤ m ∧ m < 800) (e : B 13 w 75 (4 * m + u) = i) (e' : B 13 w 75 (4 * (m - 1) + u) = i') (hi : 0 ≤ i ∧ i < 200) (hi' : 0 ≤ i' ∧ i' < 200) : f_M_beginsAt K w m u F B = some (if i = i' then 0 else 1, F, B) := by
  unfold f_M_beginsAt f_M_beginsAt_30
  rw [if_pos w0, if_pos (show 0 ≤ 4 * m + u ∧ 4 * m + u < 3200 by omega), if_pos (show 0 ≤ 4 * (m - 1) + u ∧ 4 * (m - 1) + u < 3200 by omega), e, e', if_pos (show r32 i by unfold r32; omega), if_pos (show r32 i' by unfold r32; omega)]
  by_cases z : i = i'
  · rw [if_pos z, if_pos z, if_pos (Or.inl rfl)]
  · rw [if_neg z, if_neg z, if_pos (Or.inr rfl)]
end
end
end
section
section
/-! ===== the faults of a piece, purely and in the reference ===== -/
abbrev zQ := Int × (Nat → Int → Int)
def aF (m k u v : Int) (s : zQ) : zQ := if s.1 = 300 then s else (s.1 + 1, fun r i => if i = s.1 then (if r = 0 then m else if r = 1 then k else if r = 2 then u else v) else s.2 r i)
/-- whether there is one -/
def g2Q (S : zV) (L : Int → Int → Int) (m k u v : Int) : Int := q2V k (lS S u (L u m)) (lT S u (L u m)) (lS S v (L v m)) (lT S v (L v m)) (lS S u (L u (m - 1))) (lT S u (L u (m - 1))) (lS S v (L v (m - 1))) (lT S v (L v (m - 1))) (if L u m = L u (m - 1) then 0 else 1) (if L v m = L v (m - 1) then 0 else 1)
def g1Q (S : zV) (L : Int → Int → Int) (m k u : Int) : Int := q1V k (lS S u (L u m)) (lT S u (L u m)) (lS S u (L u (m - 1))) (lT S u (L u (m - 1))) (if L u m = L u (m - 1) then 0 else 1)
def fwQ (S : zV) (L : Int → Int → Int) (m k u : Int) : Nat → Int → zQ → zQ
  | 0, _, s => s
  | d + 1, v, s => fwQ S L m k u d (v + 1) (if g2Q S L m k u v = 0 then s else aF m k u v s)
def fuQ (S : zV) (L : Int → Int → Int) (V m k : Int) : Nat → Int → zQ → zQ
  | 0, _, s => s
  | d + 1, u, s => fuQ S L V m k d (u + 1) (fwQ S L m k u (V - (u + 1)).toNat (u + 1) s)
def foQ (S : zV) (L : Int → Int → Int) (m k : Int) : Nat → Int → zQ → zQ
  | 0, _, s => s
  | d + 1, u, s => foQ S L m k d (u + 1) (if g1Q S L m k u = 0 then s else aF m k u (-1) s)
def fkQ (S : zV) (L : Int → Int → Int) (V m : Int) : Nat → Int → zQ → zQ
  | 0, _, s => s
  | d + 1, k, s => fkQ S L V m d (k + 1) (if k ≤ 4 then fuQ S L V m k V.toNat 0 s else foQ S L m k V.toNat 0 s)
def fmQ (S : zV) (L : Int → Int → Int) (V : Int) : Nat → Int → zQ → zQ
  | 0, _, s => s
  | d + 1, m, s => fmQ S L V d (m + 1) (fkQ S L V m 6 1 s)
theorem aF_b {m k u v : Int} {s : zQ} (h : 0 ≤ s.1 ∧ s.1 ≤ 300) : 0 ≤ (aF m k u v s).1 ∧ (aF m k u v s).1 ≤ 300 := by
  unfold aF
  by_cases c : s.1 = 300
  · rw [if_pos c]; exact h
  · rw [if_neg c]
    show 0 ≤ s.1 + 1 ∧ s.1 + 1 ≤ 300
    omega
theorem aF_3 {m k u v : Int} {s : zQ} (h : s.1 = 300) : aF m k u v s = s := by unfold aF; rw [if_pos h]
/-- when 300 are told, no more are -/
theorem fwQ_3 {S : zV} {L : Int → Int → Int} {m k u : Int} : ∀ (d : Nat) (v : Int) (s : zQ), s.1 = 300 → fwQ S L m k u d v s = s := by
  intro d
  induction d with
  | zero => intro v s h; rfl
  | succ d ih =>
    intro v s h
    rw [fwQ]
    by_cases c : g2Q S L m k u v = 0
    · rw [if_pos c]; exact ih _ s h
    · rw [if_neg c, aF_3 h]; exact ih _ s h
theorem fuQ_3 {S : zV} {L : Int → Int → Int} {V m k : Int} : ∀ (d : Nat) (u : Int) (s : zQ), s.1 = 300 → fuQ S L V m k d u s = s := by
  intro d
  induction d with
  | zero => intro u s h; rfl
  | succ d ih => intro u s h; rw [fuQ, fwQ_3 _ _ s h]; exact ih _ s h
theorem foQ_3 {S : zV} {L : Int → Int → Int} {m k : Int} : ∀ (d : Nat) (u : Int) (s : zQ), s.1 = 300 → foQ S L m k d u s = s := by
  intro d
  induction d with
  | zero => intro u s h; rfl
  | succ d ih =>
    intro u s h
    rw [foQ]
    by_cases c : g1Q S L m k u = 0
    · rw [if_pos c]; exact ih _ s h
    · rw [if_neg c, aF_3 h]; exact ih _ s h
theorem fkQ_3 {S : zV} {L : Int → Int → Int} {V m : Int} : ∀ (d : Nat) (k : Int) (s : zQ), s.1 = 300 → fkQ S L V m d k s = s := by
  intro d
  induction d with
  | zero => intro k s h; rfl
  | succ d ih =>
    intro k s h
    rw [fkQ]
    by_cases c : k ≤ 4
    · rw [if_pos c, fuQ_3 _ _ s h]; exact ih _ s h
    · rw [if_neg c, foQ_3 _ _ s h]; exact ih _ s h
theorem fmQ_3 {S : zV} {L : Int → Int → Int} {V : Int} : ∀ (d : Nat) (m : Int) (s : zQ), s.1 = 300 → fmQ S L V d m s = s := by
  intro d
  induction d with
  | zero => intro m s h; rfl
  | succ d ih => intro m s h; rw [fmQ, fkQ_3 _ _ s h]; exact ih _ s h
section
variable {K : Nat} {V w : Int} {S : zV} {L : Int → Int → Int}
/-- the reference's faults are s -/
def FRm (w : Int) (s : zQ) (F : zF) (B : zB) : Prop := F 13 w 76 = s.1 ∧ (0 ≤ s.1 ∧ s.1 ≤ 300) ∧ ∀ i, 0 ≤ i → i < s.1 → B 13 w 77 i = s.2 0 i ∧ B 13 w 78 i = s.2 1 i ∧ B 13 w 79 i = s.2 2 i ∧ B 13 w 80 i = s.2 3 i
theorem FRm_f {s : zQ} {F F' : zF} {B B' : zB} (h : FRm w s F B) (f : F' 13 w 76 = F 13 w 76) (b : ∀ k x, 77 ≤ k → k ≤ 80 → B' 13 w k x = B 13 w k x) : FRm w s F' B' := by
  obtain ⟨h1, h2, h3⟩ := h
  refine ⟨by rw [f]; exact h1, h2, fun i i0 i1 => ?_⟩
  rw [b 77 _ (by decide) (by decide), b 78 _ (by decide) (by decide), b 79 _ (by decide) (by decide), b 80 _ (by decide) (by decide)]
  exact h3 i i0 i1
/-- what the faults change -/
def FZ (w : Int) (B B' : zB) : Prop := ∀ c i k x, ¬ (c = 13 ∧ i = w ∧ 77 ≤ k ∧ k ≤ 80) → B' c i k x = B c i k x
def FY (w : Int) (F F' : zF) : Prop := ∀ c i k, ¬ (c = 13 ∧ i = w ∧ k = 76) → F' c i k = F c i k
theorem x_fault {m k u v : Int} {s : zQ} {F : zF} {B : zB} (w0 : 0 ≤ w ∧ w < 3) (h : FRm w s F B) : ∃ F' B', f_M_fault_1 K w m k u v F B = some (0, F', B') ∧ FY w F F' ∧ FZ w B B' ∧ FRm w (aF m k u v s) F' B' := by
  have h' := h
  obtain ⟨h1, h2, h3⟩ := h
  unfold f_M_fault_1
  rw [if_pos w0, h1, if_pos (by unfold r32; omega)]
  by_cases c : s.1 = 300
  · rw [if_pos c, aF_3 c]
    exact ⟨F, B, rfl, fun _ _ _ _ => rfl, fun _ _ _ _ _ => rfl, h'⟩
  · rw [if_neg c, if_pos (by first | decide | omega)]
    refine ⟨_, _, rfl, fun c i k n => by rw [zup3_v, if_neg n], fun c i k x n => by rw [zup4_v, if_neg (by first | decide | omega), zup4_v, if_neg (by first | decide | omega), zup4_v, if_neg (by first | decide | omega), zup4_v, if_neg (by first | decide | omega)], ?_⟩
    unfold aF
    rw [if_neg c]
    refine ⟨by rw [zup3_v, if_pos ⟨rfl, rfl, rfl⟩], by show 0 ≤ s.1 + 1 ∧ s.1 + 1 ≤ 300; omega, fun i i0 i1 => ?_⟩
    have i1 : i < s.1 + 1 := i1
    by_cases e : i = s.1
    · rw [e]
      refine ⟨?_, ?_, ?_, ?_⟩
      · rw [zup4_v, if_neg (by first | decide | omega), zup4_v, if_neg (by first | decide | omega), zup4_v, if_neg (by first | decide | omega), zup4_v, if_pos ⟨rfl, rfl, rfl, rfl⟩]
        show m = if s.1 = s.1 then (if 0 = 0 then m else if 0 = 1 then k else if 0 = 2 then u else v) else s.2 0 s.1
        rw [if_pos rfl, if_pos rfl]
      · rw [zup4_v, if_neg (by first | decide | omega), zup4_v, if_neg (by first | decide | omega), zup4_v, if_pos ⟨rfl, rfl, rfl, rfl⟩]
        show k = if s.1 = s.1 then (if 1 = 0 then m else if 1 = 1 then k else if 1 = 2 then u else v) else s.2 1 s.1
        rw [if_pos rfl, if_neg (by decide), if_pos rfl]
      · rw [zup4_v, if_neg (by first | decide | omega), zup4_v, if_pos ⟨rfl, rfl, rfl, rfl⟩]
        show u = if s.1 = s.1 then (if 2 = 0 then m else if 2 = 1 then k else if 2 = 2 then u else v) else s.2 2 s.1
        rw [if_pos rfl, if_neg (by decide), if_neg (by decide), if_pos rfl]
      · rw [zup4_v, if_pos ⟨rfl, rfl, rfl, rfl⟩]
        show v = if s.1 = s.1 then (if 3 = 0 then m else if 3 = 1 then k else if 3 = 2 then u else v) else s.2 3 s.1
        rw [if_pos rfl, if_neg (by decide), if_neg (by decide), if_neg (by decide)]
    · have a : ∀ r, (fun r i => if i = s.1 then (if r = 0 then m else if r = 1 then k else if r = 2 then u else v) else s.2 r i) r i = s.2 r i := fun r => by
        show (if i = s.1 then (if r = 0 then m else if r = 1 then k else if r = 2 then u else v) else s.2 r i) = s.2 r i
        rw [if_neg e]
      have z : ∀ r : Nat, ¬ (13 = 13 ∧ w = w ∧ r = r ∧ i = s.1) := fun r q => e q.2.2.2
      obtain ⟨b1, b2, b3, b4⟩ := h3 i i0 (by first | decide | omega)
      refine ⟨?_, ?_, ?_, ?_⟩
      · rw [zup4_v, if_neg (by first | decide | omega), zup4_v, if_neg (by first | decide | omega), zup4_v, if_neg (by first | decide | omega), zup4_v, if_neg (by first | decide | omega), b1]; exact (a 0).symm
      · rw [zup4_v, if_neg (by first | decide | omega), zup4_v, if_neg (by first | decide | omega), zup4_v, if_neg (by first | decide | omega), zup4_v, if_neg (by first | decide | omega), b2]; exact (a 1).symm
      · rw [zup4_v, if_neg (by first | decide | omega), zup4_v, if_neg (by first | decide | omega), zup4_v, if_neg (by first | decide | omega), zup4_v, if_neg (by first | decide | omega), b3]; exact (a 2).symm
      · rw [zup4_v, if_neg (by first | decide | omega), zup4_v, if_neg (by first | decide | omega), zup4_v, if_neg (by first | decide | omega), zup4_v, if_neg (by first | decide | omega), b4]; exact (a 3).symm
/-- the voices' events at each moment, as the reference has them -/
def LRm (V w c : Int) (S : zV) (L : Int → Int → Int) (F : zF) (B : zB) : Prop := SRm V w S F B ∧ (F 13 w 72 = c ∧ 0 ≤ c ∧ c ≤ 800) ∧ ∀ u t, 0 ≤ u → u < V → 0 ≤ t → t < c → B 13 w 75 (4 * t + u) = L u t ∧ 0 ≤ L u t ∧ L u t < S u 0 0 0
theorem LRm_f {c : Int} {F F' : zF} {B B' : zB} (h : LRm V w c S L F B) (f : FY w F F') (b : FZ w B B') : LRm V w c S L F' B' := by
  obtain ⟨h1, h2, h3⟩ := h
  refine ⟨SRm_f h1 (f 13 w 1 (by first | decide | omega)) (fun k x hk => b 13 w k x (by first | decide | omega)), by rw [f 13 w 72 (by first | decide | omega)]; exact h2, fun u t u0 u1 t0 t1 => ?_⟩
  rw [b 13 w 75 _ (by first | decide | omega)]
  exact h3 u t u0 u1 t0 t1
theorem x_g2 {c m k u v : Int} {F : zF} {B : zB} (hK : 100 ≤ K) (hS : SG V S) (h : LRm V w c S L F B) (u0 : 0 ≤ u) (u1 : u < V) (v0 : 0 ≤ v) (v1 : v < V) (m0 : 1 ≤ m) (m1 : m < c) : (k = 4 → f_M_isCrossed K w m u v F B = some (g2Q S L m k u v, F, B)) ∧ (1 ≤ k ∧ k ≤ 3 → f_M_isParallel K w m k u v F B = some (g2Q S L m k u v, F, B)) := by
  obtain ⟨hR, hc, hL⟩ := h
  have v4 := hS.1
  have w0 := hR.1
  obtain ⟨a1, a2, a3⟩ := hL u m u0 u1 (by first | decide | omega) m1
  obtain ⟨b1, b2, b3⟩ := hL v m v0 v1 (by first | decide | omega) m1
  obtain ⟨c1, c2, c3⟩ := hL u (m - 1) u0 u1 (by first | decide | omega) (by first | decide | omega)
  obtain ⟨d1, d2, d3⟩ := hL v (m - 1) v0 v1 (by first | decide | omega) (by first | decide | omega)
  have gu := (hS.2 u u0 u1).1
  have gv := (hS.2 v v0 v1).1
  obtain ⟨a, ea, ha⟩ := x_lineAt hK hS hR u0 u1 (show 0 ≤ m by omega) (by first | decide | omega) a1 a2 a3
  obtain ⟨b, eb, hb⟩ := x_lineAt hK hS hR v0 v1 (show 0 ≤ m by omega) (by first | decide | omega) b1 b2 b3
  obtain ⟨a', ec, hc'⟩ := x_lineAt hK hS hR u0 u1 (show 0 ≤ m - 1 by omega) (by first | decide | omega) c1 c2 c3
  obtain ⟨b', ed, hd⟩ := x_lineAt hK hS hR v0 v1 (show 0 ≤ m - 1 by omega) (by first | decide | omega) d1 d2 d3
  have eu := x_begins (K := K) (F := F) w0 (show 0 ≤ u ∧ u < 4 by omega) (show 1 ≤ m ∧ m < 800 by omega) a1 c1 (by first | decide | omega) (by first | decide | omega)
  have ev := x_begins (K := K) (F := F) w0 (show 0 ≤ v ∧ v < 4 by omega) (show 1 ≤ m ∧ m < 800 by omega) b1 d1 (by first | decide | omega) (by first | decide | omega)
  unfold g2Q q2V
  refine ⟨fun z => ?_, fun z => ?_⟩
  · rw [if_pos z]
    exact x_cross w0 ea eb ec ed ha hb hc' hd
  · rw [if_neg (by first | decide | omega)]
    exact x_par w0 z ea eb ec ed ha hb hc' hd eu ev (by split <;> omega) (by split <;> omega)
theorem x_g1 {c m k u : Int} {F : zF} {B : zB} (hK : 100 ≤ K) (hS : SG V S) (h : LRm V w c S L F B) (u0 : 0 ≤ u) (u1 : u < V) (m0 : 1 ≤ m) (m1 : m < c) (hk : k = 5 ∨ k = 6) : f_M_isAlone K w m k u F B = some (g1Q S L m k u, F, B) := by
  obtain ⟨hR, hc, hL⟩ := h
  have v4 := hS.1
  have w0 := hR.1
  obtain ⟨a1, a2, a3⟩ := hL u m u0 u1 (by first | decide | omega) m1
  obtain ⟨c1, c2, c3⟩ := hL u (m - 1) u0 u1 (by first | decide | omega) (by first | decide | omega)
  have gu := (hS.2 u u0 u1).1
  obtain ⟨a, ea, ha⟩ := x_lineAt hK hS hR u0 u1 (show 0 ≤ m by omega) (by first | decide | omega) a1 a2 a3
  obtain ⟨a', ec, hc'⟩ := x_lineAt hK hS hR u0 u1 (show 0 ≤ m - 1 by omega) (by first | decide | omega) c1 c2 c3
  have eu := x_begins (K := K) (F := F) w0 (show 0 ≤ u ∧ u < 4 by omega) (show 1 ≤ m ∧ m < 800 by omega) a1 c1 (by first | decide | omega) (by first | decide | omega)
  unfold g1Q
  exact x_alone w0 hk ea ec ha hc' eu (by split <;> omega)
theorem g2Q_b {m k u v : Int} : g2Q S L m k u v = 0 ∨ g2Q S L m k u v = 1 := q2V_b
theorem g1Q_b {m k u : Int} : g1Q S L m k u = 0 ∨ g1Q S L m k u = 1 := q1V_b
/-- both frames -/
def FF (w : Int) (F0 : zF) (B0 : zB) (F : zF) (B : zB) : Prop := FY w F0 F ∧ FZ w B0 B
theorem FF_t {F0 F1 F2 : zF} {B0 B1 B2 : zB} (h : FF w F0 B0 F1 B1) (h' : FF w F1 B1 F2 B2) : FF w F0 B0 F2 B2 := ⟨fun c i k n => by rw [h'.1 c i k n, h.1 c i k n], fun c i k x n => by rw [h'.2 c i k x n, h.2 c i k x n]⟩
theorem x_bt69 {c m k u : Int} {rec7 : Int → Int → zF → zB → zO} {rec17 : Int → Int → Int → zF → zB → zO} {rec26 : Int → Int → Int → Int → zF → zB → zO} (hK : 100 ≤ K) (hS : SG V S) (u0 : 0 ≤ u) (u1 : u < V) (m0 : 1 ≤ m) (m1 : m < c) (hk : 1 ≤ k ∧ k ≤ 4) : ∀ (d n : Nat) (v : Int) (s : zQ) (F : zF) (B : zB), 0 ≤ v → v + d = V → d < n → LRm V w c S L F B → FRm w s F B → ∃ F' B', f_M_between_0_69 rec7 rec17 rec26 K n v u k m w F B = rec26 (u + 1) k m w F' B' ∧ FF w F B F' B' ∧ FRm w (fwQ S L m k u d v s) F' B' := by
  have v4 := hS.1
  intro d
  induction d with
  | zero =>
    intro n v s F B v0 vd hn h hf
    obtain ⟨n, rfl⟩ : ∃ p, n = p + 1 := ⟨n - 1, (by first | decide | omega)⟩
    rw [f_M_between_0_69, if_pos h.1.1, if_pos (show r32 v by unfold r32; omega), h.1.2.1, if_pos (show r32 V by unfold r32; omega), if_pos (show V ≤ v by omega), f_M_between_0_127]
    exact ⟨F, B, rfl, ⟨fun _ _ _ _ => rfl, fun _ _ _ _ _ => rfl⟩, hf⟩
  | succ d ih =>
    intro n v s F B v0 vd hn h hf
    obtain ⟨n, rfl⟩ : ∃ p, n = p + 1 := ⟨n - 1, (by first | decide | omega)⟩
    have w0 := h.1.1
    obtain ⟨x4, x3⟩ := x_g2 (k := k) hK hS h u0 u1 v0 (show v < V by omega) m0 m1
    have gb := g2Q_b (S := S) (L := L) (m := m) (k := k) (u := u) (v := v)
    have r32g : r32 (g2Q S L m k u v) := by unfold r32; omega
    have skip : g2Q S L m k u v = 0 → ∃ F' B', f_M_between_0_121 rec7 rec17 rec26 (f_M_between_0_69 rec7 rec17 rec26 K n) K v u k m w F B = rec26 (u + 1) k m w F' B' ∧ FF w F B F' B' ∧ FRm w (fwQ S L m k u (d + 1) v s) F' B' := fun z => by
      rw [f_M_between_0_121, fwQ, if_pos z]
      exact ih n (v + 1) s F B (by first | decide | omega) (by first | decide | omega) (by first | decide | omega) h hf
    have tell : ¬ g2Q S L m k u v = 0 → ∃ F' B', f_M_between_0_111 rec7 rec17 rec26 (f_M_between_0_69 rec7 rec17 rec26 K n) K v u k m w F B = rec26 (u + 1) k m w F' B' ∧ FF w F B F' B' ∧ FRm w (fwQ S L m k u (d + 1) v s) F' B' := fun z => by
      obtain ⟨F1, B1, e1, f1, z1, h1⟩ := x_fault (K := K) (m := m) (k := k) (u := u) (v := v) w0 hf
      rw [f_M_between_0_111, e1, zb_s, f_M_between_0_121, fwQ, if_neg z]
      obtain ⟨F2, B2, e2, ff, h2⟩ := ih n (v + 1) _ F1 B1 (by first | decide | omega) (by first | decide | omega) (by first | decide | omega) (LRm_f h f1 z1) h1
      exact ⟨F2, B2, e2, FF_t ⟨f1, z1⟩ ff, h2⟩
    rw [f_M_between_0_69, if_pos w0, if_pos (show r32 v by unfold r32; omega), h.1.2.1, if_pos (show r32 V by unfold r32; omega), if_neg (show ¬ V ≤ v by omega), if_pos (show r32 k by unfold r32; omega)]
    by_cases c4 : k = 4
    · rw [if_pos c4, x4 c4, zb_s, if_pos r32g]
      by_cases z : g2Q S L m k u v = 0
      · rw [if_pos z]; exact skip z
      · rw [if_neg z]; exact tell z
    · rw [if_neg c4, x3 (by first | decide | omega), zb_s, if_pos r32g]
      by_cases z : g2Q S L m k u v = 0
      · rw [if_pos z]; exact skip z
      · rw [if_neg z]; exact tell z
theorem x_bt26 {c m k : Int} {rec7 : Int → Int → zF → zB → zO} {rec17 : Int → Int → Int → zF → zB → zO} (hK : 100 ≤ K) (hS : SG V S) (m0 : 1 ≤ m) (m1 : m < c) (hk : 1 ≤ k ∧ k ≤ 6) : ∀ (d n : Nat) (u : Int) (s : zQ) (F : zF) (B : zB), 0 ≤ u → u + d = V → d < n → LRm V w c S L F B → FRm w s F B → ∃ F' B', f_M_between_0_26 rec7 rec17 K n u k m w F B = rec17 (k + 1) m w F' B' ∧ FF w F B F' B' ∧ FRm w (if k ≤ 4 then fuQ S L V m k d u s else foQ S L m k d u s) F' B' := by
  have v4 := hS.1
  intro d
  induction d with
  | zero =>
    intro n u s F B u0 ud hn h hf
    obtain ⟨n, rfl⟩ : ∃ p, n = p + 1 := ⟨n - 1, (by first | decide | omega)⟩
    rw [f_M_between_0_26, if_pos h.1.1, if_pos (show r32 u by unfold r32; omega), h.1.2.1, if_pos (show r32 V by unfold r32; omega), if_pos (show V ≤ u by omega)]
    refine ⟨F, B, rfl, ⟨fun _ _ _ _ => rfl, fun _ _ _ _ _ => rfl⟩, ?_⟩
    rw [fuQ, foQ]
    split <;> exact hf
  | succ d ih =>
    intro n u s F B u0 ud hn h hf
    obtain ⟨n, rfl⟩ : ∃ p, n = p + 1 := ⟨n - 1, (by first | decide | omega)⟩
    have w0 := h.1.1
    rw [f_M_between_0_26, if_pos w0, if_pos (show r32 u by unfold r32; omega), h.1.2.1, if_pos (show r32 V by unfold r32; omega), if_neg (show ¬ V ≤ u by omega), if_pos (show r32 k by unfold r32; omega)]
    by_cases c4 : k ≤ 4
    · rw [if_pos c4]
      obtain ⟨F1, B1, e1, f1, h1⟩ := x_bt69 (rec7 := rec7) (rec17 := rec17) (rec26 := f_M_between_0_26 rec7 rec17 K n) hK hS u0 (show u < V by omega) m0 m1 ⟨hk.1, c4⟩ (V - (u + 1)).toNat K (u + 1) s F B (by first | decide | omega) (by first | decide | omega) (by first | decide | omega) h hf
      obtain ⟨F2, B2, e2, f2, h2⟩ := ih n (u + 1) _ F1 B1 (by first | decide | omega) (by first | decide | omega) (by first | decide | omega) (LRm_f h f1.1 f1.2) h1
      rw [if_pos c4] at h2
      rw [e1]
      refine ⟨F2, B2, e2, FF_t f1 f2, ?_⟩
      rw [if_pos c4, fuQ]
      exact h2
    · have gb := g1Q_b (S := S) (L := L) (m := m) (k := k) (u := u)
      rw [if_neg c4, x_g1 hK hS h u0 (show u < V by omega) m0 m1 (by first | decide | omega), zb_s, if_pos (show r32 (g1Q S L m k u) by unfold r32; omega)]
      by_cases z : g1Q S L m k u = 0
      · rw [if_pos z, f_M_between_0_127]
        obtain ⟨F2, B2, e2, f2, h2⟩ := ih n (u + 1) s F B (by first | decide | omega) (by first | decide | omega) (by first | decide | omega) h hf
        rw [if_neg c4] at h2
        refine ⟨F2, B2, e2, f2, ?_⟩
        rw [if_neg c4, foQ, if_pos z]
        exact h2
      · obtain ⟨F1, B1, e1, f1, z1, h1⟩ := x_fault (K := K) (m := m) (k := k) (u := u) (v := -1) w0 hf
        rw [if_neg z, e1, zb_s, f_M_between_0_127]
        obtain ⟨F2, B2, e2, f2, h2⟩ := ih n (u + 1) _ F1 B1 (by first | decide | omega) (by first | decide | omega) (by first | decide | omega) (LRm_f h f1 z1) h1
        rw [if_neg c4] at h2
        refine ⟨F2, B2, e2, FF_t ⟨f1, z1⟩ f2, ?_⟩
        rw [if_neg c4, foQ, if_neg z]
        exact h2
theorem x_bt17 {c m : Int} {rec7 : Int → Int → zF → zB → zO} (hK : 100 ≤ K) (hS : SG V S) (m0 : 1 ≤ m) (m1 : m < c) : ∀ (d n : Nat) (k : Int) (s : zQ) (F : zF) (B : zB), 1 ≤ k → k + d = 7 → d < n → LRm V w c S L F B → FRm w s F B → ∃ F' B', f_M_between_0_17 rec7 K n k m w F B = rec7 (m + 1) w F' B' ∧ FF w F B F' B' ∧ FRm w (fkQ S L V m d k s) F' B' := by
  have v4 := hS.1
  intro d
  induction d with
  | zero =>
    intro n k s F B k0 kd hn h hf
    obtain ⟨n, rfl⟩ : ∃ p, n = p + 1 := ⟨n - 1, (by first | decide | omega)⟩
    rw [f_M_between_0_17, if_pos (show r32 k by unfold r32; omega), if_pos (show 7 ≤ k by omega)]
    exact ⟨F, B, rfl, ⟨fun _ _ _ _ => rfl, fun _ _ _ _ _ => rfl⟩, hf⟩
  | succ d ih =>
    intro n k s F B k0 kd hn h hf
    obtain ⟨n, rfl⟩ : ∃ p, n = p + 1 := ⟨n - 1, (by first | decide | omega)⟩
    rw [f_M_between_0_17, if_pos (show r32 k by unfold r32; omega), if_neg (show ¬ 7 ≤ k by omega)]
    obtain ⟨F1, B1, e1, f1, h1⟩ := x_bt26 (rec7 := rec7) (rec17 := f_M_between_0_17 rec7 K n) hK hS m0 m1 (show 1 ≤ k ∧ k ≤ 6 by omega) V.toNat K 0 s F B (by decide) (by first | decide | omega) (by first | decide | omega) h hf
    obtain ⟨F2, B2, e2, f2, h2⟩ := ih n (k + 1) _ F1 B1 (by first | decide | omega) (by first | decide | omega) (by first | decide | omega) (LRm_f h f1.1 f1.2) h1
    rw [e1]
    exact ⟨F2, B2, e2, FF_t f1 f2, h2⟩
theorem x_bt7 {c : Int} (hK : 1000 ≤ K) (hS : SG V S) : ∀ (d n : Nat) (m : Int) (s : zQ) (F : zF) (B : zB), 1 ≤ m → (m + d = c ∨ (d = 0 ∧ c = 0 ∧ m = 1)) → d < n → LRm V w c S L F B → FRm w s F B → ∃ F' B', f_M_between_0_7 K n m w F B = some (0, F', B') ∧ FF w F B F' B' ∧ FRm w (fmQ S L V d m s) F' B' := by
  intro d
  induction d with
  | zero =>
    intro n m s F B m0 md hn h hf
    obtain ⟨n, rfl⟩ : ∃ p, n = p + 1 := ⟨n - 1, (by first | decide | omega)⟩
    have hc := h.2.1
    rw [f_M_between_0_7, if_pos h.1.1, hc.1]
    rw [if_pos (show r32 m by unfold r32; omega), if_pos (show r32 c by unfold r32; omega), if_pos (show c ≤ m by omega)]
    exact ⟨F, B, rfl, ⟨fun _ _ _ _ => rfl, fun _ _ _ _ _ => rfl⟩, hf⟩
  | succ d ih =>
    intro n m s F B m0 md hn h hf
    obtain ⟨n, rfl⟩ : ∃ p, n = p + 1 := ⟨n - 1, (by first | decide | omega)⟩
    have hc := h.2.1
    rw [f_M_between_0_7, if_pos h.1.1, hc.1, if_pos (show r32 m by unfold r32; omega), if_pos (show r32 c by unfold r32; omega), if_neg (show ¬ c ≤ m by omega)]
    obtain ⟨F1, B1, e1, f1, h1⟩ := x_bt17 (K := K) (rec7 := f_M_between_0_7 K n) (by first | decide | omega) hS m0 (show m < c by omega) 6 K 1 s F B (by decide) (by decide) (by first | decide | omega) h hf
    obtain ⟨F2, B2, e2, f2, h2⟩ := ih n (m + 1) _ F1 B1 (by first | decide | omega) (by first | decide | omega) (by first | decide | omega) (LRm_f h f1.1 f1.2) h1
    rw [e1]
    exact ⟨F2, B2, e2, FF_t f1 f2, h2⟩
/-- the faults of a piece with c moments -/
def flQ (S : zV) (L : Int → Int → Int) (V c : Int) : zQ := fmQ S L V (c - 1).toNat 1 (0, fun _ _ => 0)
theorem x_between {c : Int} {F : zF} {B : zB} (hK : 1000 ≤ K) (hS : SG V S) (h : LRm V w c S L F B) : ∃ F' B', f_M_between_0 K w F B = some (0, F', B') ∧ FF w F B F' B' ∧ FRm w (flQ S L V c) F' B' := by
  have hc := h.2.1
  have f : FY w F (zup3 F 13 w 76 0) := fun c i k n => by rw [zup3_v, if_neg n]
  obtain ⟨F1, B1, e1, f1, h1⟩ := x_bt7 hK hS (c - 1).toNat K 1 (0, fun _ _ => 0) (zup3 F 13 w 76 0) B (by decide) (by first | decide | omega) (by first | decide | omega) (LRm_f h f (fun _ _ _ _ _ => rfl)) ⟨by rw [zup3_v, if_pos ⟨rfl, rfl, rfl⟩], by decide, fun i i0 i1 => by have i1 : i < 0 := i1; omega⟩
  unfold f_M_between_0
  rw [if_pos h.1.1, e1]
  exact ⟨F1, B1, rfl, FF_t ⟨f, fun _ _ _ _ _ => rfl⟩ f1, h1⟩
end
end
end
section
section
/-! ===== a kept piece's moments and faults, reference ===== -/
def MXk (V w : Int) (S : zV) (F : zF) (B : zB) : Prop := SRm V w S F B ∧ CXk V w F B ∧ ∃ T, MXo V w S T F B ∧ FRm w (flQ S (fun u t => B 13 w 75 (4 * t + u)) V (F 13 w 72)) F B
theorem MXk_e {V w : Int} {S : zV} {F F' : zF} {B B' : zB} (h : MXk V w S F B) (f : ∀ k, k = 1 ∨ k = 4 ∨ k = 5 ∨ k = 7 ∨ k = 72 ∨ k = 76 → F' 13 w k = F 13 w k) (b : ∀ k x, k ≤ 46 ∨ (73 ≤ k ∧ k ≤ 80) → B' 13 w k x = B 13 w k x) : MXk V w S F' B' := by
  obtain ⟨h1, hc, T, h2, h3⟩ := h
  have e : (fun u t => B' 13 w 75 (4 * t + u)) = fun (u t : Int) => B 13 w 75 (4 * t + u) := by
    funext u t
    exact b 75 _ (by first | decide | omega)
  refine ⟨SRm_f h1 (f 1 (by first | decide | omega)) (fun k x hk => b k x (by first | decide | omega)), CXk_e hc (fun k hk => f k (by first | decide | omega)) (fun k x hk => b k x (by first | decide | omega)), T, MXo_f h2 (f 72 (by first | decide | omega)) (fun k x _ _ => b k x (by first | decide | omega)), ?_⟩
  rw [e, f 72 (by first | decide | omega)]
  exact FRm_f h3 (f 76 (by first | decide | omega)) (fun k x _ _ => b k x (by first | decide | omega))
/-- behind the moments: the faults -/
theorem x_tail {K : Nat} {V w : Int} {S : zV} {F : zF} {B : zB} (hK : 812851200 < K) (hS : SG V S) (hR : SRm V w S F B) : ∃ F1 B1 F2 B2, f_M_moments K w F B = some (0, F1, B1) ∧ f_M_between_0 K w F1 B1 = some (0, F2, B2) ∧ SRm V w S F2 B2 ∧ ∃ T, MXo V w S T F2 B2 ∧ FRm w (flQ S (fun u t => B2 13 w 75 (4 * t + u)) V (F2 13 w 72)) F2 B2 := by
  obtain ⟨F1, B1, T, x1, x2, x3, x4⟩ := x_moments hK hS hR
  have hR1 : SRm V w S F1 B1 := SRm_f hR (x2 13 w 1 (by first | decide | omega)) (fun k x hk => x3 13 w k x (by first | decide | omega))
  have hl : LRm V w (F1 13 w 72) S (fun u t => B1 13 w 75 (4 * t + u)) F1 B1 := ⟨hR1, ⟨rfl, x4.2.1.1⟩, fun u t u0 u1 t0 t1 => ⟨rfl, (x4.2.2 u t u0 u1 t0 t1).1⟩⟩
  obtain ⟨F2, B2, y1, y2, y3⟩ := x_between (K := K) (by first | decide | omega) hS hl
  have e : (fun u t => B2 13 w 75 (4 * t + u)) = fun (u t : Int) => B1 13 w 75 (4 * t + u) := by
    funext u t
    exact y2.2 13 w 75 _ (by first | decide | omega)
  refine ⟨F1, B1, F2, B2, x1, y1, SRm_f hR1 (y2.1 13 w 1 (by first | decide | omega)) (fun k x hk => y2.2 13 w k x (by first | decide | omega)), T, MXo_f x4 (y2.1 13 w 72 (by first | decide | omega)) (fun k x _ _ => y2.2 13 w k x (by first | decide | omega)), ?_⟩
  rw [e, y2.1 13 w 72 (by first | decide | omega)]
  exact y3
end
end
section
section
/-! ===== a piece that has been read, both sides, as it is kept ===== -/
def EVK (w e x : Int) (F : zF) (B Bm : zB) : Prop := (1 ≤ F 1 e 2 ∧ F 1 e 2 ≤ 1024) ∧ (F 1 e 3 = Bm 13 w 24 x ∧ 1 ≤ F 1 e 3 ∧ F 1 e 3 ≤ 81) ∧ (F 1 e 4 = Bm 13 w 23 x ∧ 1 ≤ F 1 e 4 ∧ F 1 e 4 ≤ 81) ∧ (∃ z, 6350400 = F 1 e 3 * z ∧ F 1 e 1 = z * F 1 e 2 * F 1 e 4) ∧ (Bm 13 w 16 x = nu (F 1 e 1) ∧ Bm 13 w 17 x = de (F 1 e 1) ∧ 1 ≤ F 1 e 1 ∧ F 1 e 1 ≤ 600000000000) ∧ (F 1 e 5 = Bm 13 w 25 x ∧ 0 ≤ F 1 e 5 ∧ F 1 e 5 ≤ 5000) ∧ (0 ≤ Bm 13 w 22 x ∧ Bm 13 w 22 x ≤ 2 ∧ (F 1 e 5 = 0 ↔ Bm 13 w 22 x = 0) ∧ (F 1 e 5 = 0 → F 1 e 3 = 1 ∧ F 1 e 4 = 1)) ∧ (F 1 e 7 = Bm 13 w 18 x ∧ 0 ≤ F 1 e 7 ∧ F 1 e 7 < 128) ∧ (F 1 e 8 = Bm 13 w 19 x ∧ 0 ≤ F 1 e 8 ∧ F 1 e 8 ≤ 7) ∧ (F 1 e 9 = Bm 13 w 20 x ∧ 0 ≤ F 1 e 9 ∧ F 1 e 9 ≤ 3000) ∧ EPR e x w (F 1 e 10) F B Bm
theorem EVK_e {w e x : Int} {F F' : zF} {B B' Bm Bm' : zB} (h : EVK w e x F B Bm) (f : F' 1 e = F 1 e) (b : B' 1 e = B 1 e) (hm : ∀ k x, k ≤ 35 → Bm' 13 w k x = Bm 13 w k x) : EVK w e x F' B' Bm' := by
  unfold EVK EPR at *
  rw [f, b, hm 24 _ (by decide), hm 23 _ (by decide), hm 16 _ (by decide), hm 17 _ (by decide), hm 25 _ (by decide), hm 22 _ (by decide), hm 18 _ (by decide), hm 19 _ (by decide), hm 20 _ (by decide), hm 21 _ (by decide)]
  obtain ⟨v1, v2, v3, v4, v5, v6, v7, v8, v9, v10, e1, e2, e3, e4, e5⟩ := h
  exact ⟨v1, v2, v3, v4, v5, v6, v7, v8, v9, v10, e1, e2, e3, fun k k0 k1 => by rw [hm 28 _ (by decide), hm 29 _ (by decide)]; exact e4 k k0 k1, e5⟩
def VK (K : zK) (q v w : Int) (m : Nat) (bar : Int) (g : Int → Int) (F : zF) (B Bm : zB) : Prop := (F 4 q 6 = m ∧ 1 ≤ m ∧ m ≤ 200) ∧ Bm 13 w 12 v = m ∧ (∀ j : Int, 0 ≤ j → j < m → 1 ≤ g j) ∧ sumZ g m ≤ 100 * bar ∧ F 4 q 7 = sumZ g m ∧ (∀ i : Nat, i < m → EVK w (B 4 q 5 i) (1000 * v + i) F B Bm ∧ F 1 (B 4 q 5 i) 0 = sumZ g i ∧ Bm 13 w 14 (1000 * v + i) = nu (sumZ g i) ∧ Bm 13 w 15 (1000 * v + i) = de (sumZ g i) ∧ F 1 (B 4 q 5 i) 1 = g i) ∧ SLs q v w m B F Bm ∧ BW q m bar g F B ∧ ∃ c, NW q v w m (zZ bar (clB (sumZ g m) bar)) c F B Bm ∧ QN K q m c F B ∧ GBw q c B
theorem VK_e {K K' : zK} {q v w bar : Int} {m : Nat} {g : Int → Int} {F F' : zF} {B B' Bm Bm' : zB} (h : VK K q v w m bar g F B Bm) (hk1 : K.2 1 ≤ K'.2 1) (hk4 : K.2 4 ≤ K'.2 4) (f4 : F' 4 q = F 4 q) (b4 : B' 4 q = B 4 q) (f1 : ∀ i : Int, 0 ≤ i → i < 200 → F' 1 (B 4 q 5 i) = F 1 (B 4 q 5 i)) (b1 : ∀ i : Int, 0 ≤ i → i < 200 → B' 1 (B 4 q 5 i) = B 1 (B 4 q 5 i)) (hm : ∀ k x, k ≤ 35 → Bm' 13 w k x = Bm 13 w k x) : VK K' q v w m bar g F' B' Bm' := by
  obtain ⟨⟨a1, a2, a3⟩, a4, a5, a6, a7, a8, a9, a10, c, nw, qn, gb⟩ := h
  refine ⟨⟨by rw [f4]; exact a1, a2, a3⟩, by rw [hm 12 _ (by decide)]; exact a4, a5, a6, by rw [f4]; exact a7, fun i hi => ?_, fun j hj => ?_, ?_, c, ⟨nw.1, by rw [f4]; exact nw.2.1, by rw [f4]; exact nw.2.2.1, by rw [hm 13 _ (by decide)]; exact nw.2.2.2.1, fun i i0 i1 => ?_⟩, ?_, ?_⟩
  · obtain ⟨ev, q1, q2, q3, q4⟩ := a8 i hi
    rw [b4, f1 i (by first | decide | omega) (by first | decide | omega), hm 14 _ (by decide), hm 15 _ (by decide)]
    exact ⟨EVK_e ev (f1 i (by first | decide | omega) (by first | decide | omega)) (b1 i (by first | decide | omega) (by first | decide | omega)) hm, q1, q2, q3, q4⟩
  · rw [b4, f1 j (by first | decide | omega) (by first | decide | omega), hm 27 _ (by decide)]
    exact a9 j hj
  · obtain ⟨w1, w2, w3, w4⟩ := a10
    refine ⟨fun i hi hz => w1 i hi ?_, fun i hi hz => w2 i hi ?_, fun i hi hz => w3 i hi ?_, fun i hi => ?_⟩
    · rcases hz with hz | hz
      · exact Or.inl hz
      · by_cases e : i = m
        · exact Or.inl e
        · rw [b4, f1 i (by first | decide | omega) (by first | decide | omega)] at hz
          exact Or.inr hz
    · rw [b4, f1 i (by first | decide | omega) (by first | decide | omega)] at hz
      exact hz
    · rw [b4, f1 i (by first | decide | omega) (by first | decide | omega)] at hz
      exact hz
    · have := w4 i hi
      unfold TIk at this ⊢
      rw [b4, f1 i (by first | decide | omega) (by first | decide | omega)]
      exact this
  · have := nw.2.2.2.2 i i0 i1
    unfold NE at this ⊢
    rw [b4, hm 30 _ (by decide), hm 31 _ (by decide), hm 32 _ (by decide), hm 33 _ (by decide), hm 34 _ (by decide), hm 35 _ (by decide)]
    exact this
  · obtain ⟨k1, k2, k3, k4, k5, k6, k7⟩ := qn
    refine ⟨⟨k1.1, (by first | decide | omega)⟩, by rw [f4]; exact k2, by rw [f4]; exact k3, by rw [f4]; exact k4, fun i i0 i1 => by rw [b4]; exact k5 i i0 i1, fun t t0 t1 => ?_, fun s s0 s1 => by rw [b4]; exact k7 s s0 s1⟩
    obtain ⟨j1, j2, j3, j4⟩ := k6 t t0 t1
    rw [b4, f1 t t0 (by first | decide | omega)]
    refine ⟨⟨j1.1, (by first | decide | omega)⟩, j2, j3, fun k k0 k1 => ?_⟩
    rw [b1 t t0 (by first | decide | omega)]
    exact j4 k k0 k1
  · unfold GBw at *
    rw [b4]
    exact gb
/-- what both sides say of a voice's head -/
def VH (K : zK) (p w u : Int) (F : zF) (B Bm : zB) : Prop := (0 ≤ B 6 p 0 u ∧ B 6 p 0 u < K.2 4) ∧ F 4 (B 6 p 0 u) 0 = Bm 13 w 10 u ∧ (F 4 (B 6 p 0 u) 1 = Bm 13 w 8 u ∧ 0 ≤ F 4 (B 6 p 0 u) 1 ∧ F 4 (B 6 p 0 u) 1 < 4) ∧ (F 4 (B 6 p 0 u) 2 = Bm 13 w 9 u ∧ 0 ≤ F 4 (B 6 p 0 u) 2 ∧ F 4 (B 6 p 0 u) 2 ≤ 3) ∧ (0 < F 4 (B 6 p 0 u) 0 ∧ F 4 (B 6 p 0 u) 0 < 9223372036854775808) ∧ Bm 13 w 11 u = ltr 9 (Bm 13 w 10 u) ∧ NZb (Bm 13 w 10 u)
def PK (K : zK) (V p w : Int) (F : zF) (B : zB) (Fm : zF) (Bm : zB) : Prop := ((0 ≤ p ∧ p < K.2 6) ∧ (0 ≤ w ∧ w < 3) ∧ (1 ≤ V ∧ V ≤ 4) ∧ F 6 p 1 = V ∧ Fm 13 w 1 = V) ∧ ((F 6 p 2 = Fm 13 w 2 ∧ -7 ≤ F 6 p 2 ∧ F 6 p 2 ≤ 7) ∧ (F 6 p 3 = Fm 13 w 3 ∧ (F 6 p 3 = 0 ∨ F 6 p 3 = 1)) ∧ (F 6 p 4 = Fm 13 w 4 ∧ 1 ≤ F 6 p 4 ∧ F 6 p 4 ≤ 12) ∧ (F 6 p 5 = Fm 13 w 5 ∧ (F 6 p 5 = 2 ∨ F 6 p 5 = 4 ∨ F 6 p 5 = 8 ∨ F 6 p 5 = 16)) ∧ (F 6 p 6 = Fm 13 w 6 ∧ 20 ≤ F 6 p 6 ∧ F 6 p 6 ≤ 300) ∧ (F 6 p 7 = Fm 13 w 7 ∧ 0 ≤ F 6 p 7 ∧ F 6 p 7 ≤ 100)) ∧ (∀ u, 0 ≤ u → u < V → VH K p w u F B Bm ∧ ∃ m g, VK K (B 6 p 0 u) u w m (barV (F 6 p 4) (F 6 p 5)) g F B Bm ∧ Fm 13 w 7 = clB (F 4 (B 6 p 0 u) 7) (barV (F 6 p 4) (F 6 p 5)))
theorem PK_e {K K' : zK} {V p w : Int} {F F' : zF} {B B' : zB} {Fm Fm' : zF} {Bm Bm' : zB} (h : PK K V p w F B Fm Bm) (hk : ∀ c, K.2 c ≤ K'.2 c) (f6 : ∀ k, k ≤ 7 → F' 6 p k = F 6 p k) (b6 : B' 6 p 0 = B 6 p 0) (f4 : ∀ u, 0 ≤ u → u < V → F' 4 (B 6 p 0 u) = F 4 (B 6 p 0 u)) (b4 : ∀ u, 0 ≤ u → u < V → B' 4 (B 6 p 0 u) = B 4 (B 6 p 0 u)) (f1 : ∀ u i, 0 ≤ u → u < V → 0 ≤ i → i < 200 → F' 1 (B 4 (B 6 p 0 u) 5 i) = F 1 (B 4 (B 6 p 0 u) 5 i)) (b1 : ∀ u i, 0 ≤ u → u < V → 0 ≤ i → i < 200 → B' 1 (B 4 (B 6 p 0 u) 5 i) = B 1 (B 4 (B 6 p 0 u) 5 i)) (fm : ∀ k, k ≤ 7 → 1 ≤ k → Fm' 13 w k = Fm 13 w k) (bm : ∀ k x, k ≤ 35 → Bm' 13 w k x = Bm 13 w k x) : PK K' V p w F' B' Fm' Bm' := by
  obtain ⟨⟨h1, h2, h3, h4, h5⟩, hh, hv⟩ := h
  have k6 := hk 6
  have k4 := hk 4
  unfold PK
  rw [f6 1 (by decide), f6 2 (by decide), f6 3 (by decide), f6 4 (by decide), f6 5 (by decide), f6 6 (by decide), f6 7 (by decide), fm 1 (by decide) (by decide), fm 2 (by decide) (by decide), fm 3 (by decide) (by decide), fm 4 (by decide) (by decide), fm 5 (by decide) (by decide), fm 6 (by decide) (by decide), fm 7 (by decide) (by decide), b6]
  refine ⟨⟨⟨h1.1, (by first | decide | omega)⟩, h2, h3, h4, h5⟩, hh, fun u u0 u1 => ?_⟩
  obtain ⟨⟨v1, v2, v3, v4⟩, m, g, vk, e7⟩ := hv u u0 u1
  refine ⟨?_, m, g, VK_e vk (hk 1) (hk 4) (f4 u u0 u1) (b4 u u0 u1) (fun i i0 i1 => f1 u i u0 u1 i0 i1) (fun i i0 i1 => b1 u i u0 u1 i0 i1) bm, by rw [f4 u u0 u1]; exact e7⟩
  unfold VH
  rw [b6, f4 u u0 u1, bm 10 _ (by decide), bm 8 _ (by decide), bm 9 _ (by decide), bm 11 _ (by decide)]
  exact ⟨⟨v1.1, (by first | decide | omega)⟩, v2, v3, v4⟩
/-- from a text just read -/
theorem VK_d {K : zK} {q v w bar : Int} {m : Nat} {g : Int → Int} {F F' : zF} {B Bm Bm' : zB} (h : VD K q v w m bar g F B Bm) (f : ∀ c y k, ¬ c = 0 → ¬ c = 6 → F' c y k = F c y k) (h20 : ∀ i : Nat, i < m → Bm' 13 w 20 (1000 * v + i) = Bm 14 0 8 (Bm 13 w 20 (1000 * v + i))) (hm : ∀ k x, ¬ k = 20 → k ≤ 35 → Bm' 13 w k x = Bm 13 w k x) : VK K q v w m bar g F' B Bm' := by
  have e1 : F' 1 = F 1 := by funext y k; exact f 1 y k (by decide) (by decide)
  have e4 : F' 4 = F 4 := by funext y k; exact f 4 y k (by decide) (by decide)
  unfold VD SLs BW TIk NW QN NE at h
  unfold VK SLs BW TIk NW QN NE
  rw [e1, e4]
  obtain ⟨a1, a4, a5, a6, a7, a8, a9, a10, c, nw, qn, gb⟩ := h
  refine ⟨a1, by rw [hm 12 _ (by decide) (by decide)]; exact a4, a5, a6, a7, fun i hi => ?_, fun j hj => ?_, a10, c, ?_, qn, gb⟩
  · obtain ⟨ev, q1, q2, q3, q4⟩ := a8 i hi
    refine ⟨?_, q1, by rw [hm 14 _ (by decide) (by decide)]; exact q2, by rw [hm 15 _ (by decide) (by decide)]; exact q3, q4⟩
    unfold EVW EPR at ev
    unfold EVK EPR
    rw [e1, hm 24 _ (by decide) (by decide), hm 23 _ (by decide) (by decide), hm 16 _ (by decide) (by decide), hm 17 _ (by decide) (by decide), hm 25 _ (by decide) (by decide), hm 22 _ (by decide) (by decide), hm 18 _ (by decide) (by decide), hm 19 _ (by decide) (by decide), hm 21 _ (by decide) (by decide), h20 i hi]
    obtain ⟨v1, v2, v3, v4, v5, v6, v7, v8, v9, v10, v11, v12⟩ := ev
    refine ⟨v1, v2, v3, v4, v5, v6, v7, v9, v10, ⟨v11.1, v11.2.2.2⟩, v12.1, v12.2.1, v12.2.2.1, fun k k0 k1 => ?_, v12.2.2.2.2⟩
    rw [hm 28 _ (by decide) (by decide), hm 29 _ (by decide) (by decide)]
    exact v12.2.2.2.1 k k0 k1
  · rw [hm 27 _ (by decide) (by decide)]
    exact a9 j hj
  · refine ⟨nw.1, nw.2.1, nw.2.2.1, by rw [hm 13 _ (by decide) (by decide)]; exact nw.2.2.2.1, fun i i0 i1 => ?_⟩
    rw [hm 30 _ (by decide) (by decide), hm 31 _ (by decide) (by decide), hm 32 _ (by decide) (by decide), hm 33 _ (by decide) (by decide), hm 34 _ (by decide) (by decide), hm 35 _ (by decide) (by decide)]
    exact nw.2.2.2.2 i i0 i1
/-- the reference's own facts about a kept piece -/
theorem PK_r {K : zK} {V p w : Int} {F : zF} {B : zB} {Fm : zF} {Bm : zB} (h : PK K V p w F B Fm Bm) : RDW V w Fm Bm := by
  obtain ⟨⟨h1, h2, h3, h4, h5⟩, ⟨k2, k3, k4, k5, k6, k7⟩, hv⟩ := h
  refine ⟨h2, ⟨h5, h3⟩, (by first | decide | omega), (by first | decide | omega), (by first | decide | omega), (by first | decide | omega), fun u u0 u1 => ?_⟩
  obtain ⟨⟨v1, v2, v3, v4⟩, m, g, vk, e7⟩ := hv u u0 u1
  obtain ⟨⟨a1, a2, a3⟩, a4, a5, a6, a7, a8, a9, a10, c, nw, qn, gb⟩ := vk
  have bv := bar_v (n := F 6 p 4) (d := F 6 p 5) ⟨k4.2.1, k4.2.2⟩ k5.2
  refine ⟨⟨(by first | decide | omega), by rw [nw.2.2.2.1]; exact nw.1, (by first | decide | omega)⟩, fun x x0 x1 => ?_, fun y y0 y1 => ?_⟩
  · obtain ⟨i, hi⟩ : ∃ i : Nat, x = 1000 * u + i := ⟨(x - 1000 * u).toNat, (by first | decide | omega)⟩
    subst hi
    have hi : i < m := by omega
    obtain ⟨ev, q1, q2, q3, q4⟩ := a8 i hi
    obtain ⟨_, _, _, _, e5, _, _, e8, e9, e10, ep⟩ := ev
    refine ⟨⟨by rw [← e8.1]; exact e8.2, by rw [← e9.1]; exact e9.2, by rw [ep.2.1]; exact ep.2.2.1, ?_, ?_⟩, fun k k0 k1 => ?_, ?_⟩
    · have := a9 i hi; omega
    · have := a10.2.2.2 i hi
      unfold TIk at this
      rw [e8.1] at this
      omega
    · rw [ep.2.1] at k1
      have := ep.2.2.2.1 k k0 k1
      omega
    · have s0 := sumZ_0 a5 i (by first | decide | omega)
      have s1 := sumZ_m a5 (m - i - 1) (i + 1) (by first | decide | omega)
      have s2 : sumZ g (i + 1) = sumZ g i + g i := rfl
      have gi := a5 i (by first | decide | omega) (by first | decide | omega)
      exact ⟨sumZ g i, g i, ⟨s0, gi, (by first | decide | omega)⟩, q2, q3, by rw [e5.1, q4], by rw [e5.2.1, q4]⟩
  · have hy : 0 ≤ y - 800 * u ∧ y - 800 * u < c := by have := nw.2.2.2.1; omega
    have ne := nw.2.2.2.2 (y - 800 * u) hy.1 hy.2
    unfold NE zZ at ne
    rw [show 800 * u + (y - 800 * u) = y by omega] at ne
    obtain ⟨n1, n2, n3, n4, n5, n6⟩ := ne
    rw [a7] at e7
    refine ⟨(by first | decide | omega), (by first | decide | omega), (by first | decide | omega), (by first | decide | omega), B 4 (B 6 p 0 u) 9 (y - 800 * u), ⟨n3.1, by rw [← k4.1, ← k5.1]; exact n6.1⟩, n3.2.2.1, n3.2.2.2⟩
end
end
section
section
/-! ===== reference: what follows a text that has been read ===== -/
theorem XC_f {B B' : zB} (h : XC B) (f : ∀ i k x, k = 42 ∨ k = 45 ∨ k = 46 → B' 13 i k x = B 13 i k x) : XC B' := fun i x => by
  rw [f i 42 x (by first | decide | omega), f i 45 x (by first | decide | omega), f i 46 x (by first | decide | omega)]
  exact h i x
theorem X77_f {B B' : zB} (h : X77 B) (f : ∀ i k x, 77 ≤ k → k ≤ 80 → B' 13 i k x = B 13 i k x) : X77 B' := fun i x => by
  rw [f i 77 x (by decide) (by decide), f i 78 x (by decide) (by decide), f i 79 x (by decide) (by decide), f i 80 x (by decide) (by decide)]
  exact h i x
theorem CDn_a {V w b l : Int} {B B' : zB} (h : CDn V w b l B) (f : ∀ k x, k ≤ 46 → B' 13 w k x = B 13 w k x) : CDn V w b l B' := CDn_f h (fun k x hk => f k x (by first | decide | omega)) (fun t _ _ => f 42 t (by decide)) (fun j _ _ => ⟨f 43 j (by decide), f 44 j (by decide)⟩)
theorem CDm_a {V w b l : Int} {B B' : zB} (h : CDm V w b l B) (f : ∀ k x, k ≤ 46 → B' 13 w k x = B 13 w k x) : CDm V w b l B' := ⟨CDn_a h.1 f, fun t j t0 t1 j0 j1 => by
  rw [f 42 _ (by decide)] at j1
  rw [f 43 j (by decide), f 44 j (by decide)]
  exact h.2 t j t0 t1 j0 j1⟩
/-- the reference's own facts about a kept piece -/
def MK (V w : Int) (F : zF) (B : zB) : Prop := MW5 V w F B ∧ CDm V w (F 13 w 7) 3200 B ∧ (0 ≤ F 13 w 76 ∧ F 13 w 76 ≤ 300)
theorem MK_e {V w : Int} {F F' : zF} {B B' : zB} (h : MK V w F B) (f : F' 13 w 7 = F 13 w 7 ∧ F' 13 w 72 = F 13 w 72 ∧ F' 13 w 76 = F 13 w 76) (b : B' 13 w = B 13 w) : MK V w F' B' := by
  obtain ⟨h1, h2, h3⟩ := h
  refine ⟨MW5_f h1 f.2.1 (fun k x _ => by rw [b]), ?_, by rw [f.2.2]; exact h3⟩
  rw [f.1]
  exact CDm_a h2 (fun k x _ => by rw [b])
/-- the reference's rows of signs of note j of voice t -/
def SGr (w : Int) (D : zD) (B : zB) (t j : Int) : Prop := B 13 w 36 (800 * t + j) = hdN D j ∧ B 13 w 37 (800 * t + j) = acN D j ∧ B 13 w 38 (800 * t + j) = lgN D j ∧ B 13 w 39 (800 * t + j) = grpN D j ∧ B 13 w 40 (800 * t + j) = bsN D j ∧ B 13 w 41 (800 * t + j) = smN D j
theorem SGr_f {w t j : Int} {D : zD} {B B' : zB} (h : SGr w D B t j) (f : ∀ k x, 36 ≤ k → k ≤ 41 → B' 13 w k x = B 13 w k x) : SGr w D B' t j := by
  unfold SGr at *
  rw [f 36 _ (by decide) (by decide), f 37 _ (by decide) (by decide), f 38 _ (by decide) (by decide), f 39 _ (by decide) (by decide), f 40 _ (by decide) (by decide), f 41 _ (by decide) (by decide)]
  exact h
theorem L_tail {K n : Nat} {V w w1 l1 nn dd : Int} {ms : Int → Nat} {cs : Int → Int} {Ds : Int → zD} {S : zV} {F : zF} {B : zB} (hSG : SG V S) (hSR : SRm V w S F B) (hMD : ∀ t, 0 ≤ t → t < V → MDr w t nn dd (ms t) (cs t) (Ds t) F B) (hK : 812851200 < K) (h6 : F 14 0 6 = w) (hR : RDW V w F B) (hX : XS B) (hC : XC B) (h7 : X77 B) (l0 : 0 ≤ l1 ∧ l1 < 2) (h5 : B 14 0 5 l1 = w1) (w1b : 0 ≤ w1 ∧ w1 < 3) (hw : ¬ w1 = w) : ∃ F' B', f_M_read_57 K (n + 1) V l1 F B = some (0, F', B') ∧ (∀ c i k, ¬ (c = 14 ∧ i = 0 ∧ (k ≤ 1 ∨ k = 6)) → ¬ (c = 13 ∧ i = w ∧ (k = 0 ∨ 8 ≤ k)) → ¬ (c = 13 ∧ i = w1 ∧ k = 0) → F' c i k = F c i k) ∧ (F' 14 0 6 = w1 ∧ F' 13 w 0 = 1 ∧ F' 13 w1 0 = 0 ∧ F' 13 w 48 = 0 ∧ F' 13 w 53 = 0 ∧ F' 13 w 54 = 0 ∧ F' 13 w 60 = 0 ∧ F' 13 w 65 = 0 ∧ F' 13 w 66 = 0) ∧ (∀ c i k x, ¬ (c = 13 ∧ i = w ∧ 36 ≤ k) → ¬ (c = 14 ∧ i = 0 ∧ k = 58) → ¬ (c = 14 ∧ i = 0 ∧ k = 5 ∧ x = l1) → B' c i k x = B c i k x) ∧ B' 14 0 5 l1 = w ∧ XS B' ∧ XC B' ∧ X77 B' ∧ MK V w F' B' ∧ (∀ t, 0 ≤ t → t < V → ∀ j, 0 ≤ j → j < cs t → SGr w (Ds t) B' t j) ∧ MXk V w S F' B' := by
  have b0 := rd_0 hR
  obtain ⟨w0, ⟨hV, V1, V4⟩, _, _, _, _⟩ := b0
  obtain ⟨r1, F, B1, e1, rfl, q1⟩ := s_staves (K := K) hR (by first | decide | omega) hX
  obtain ⟨B0, x1, _, x3⟩ := M_stvs (Km := K) (n := nn) (d := dd) (ms := ms) (cs := cs) (Ds := Ds) (by first | decide | omega) w0 ⟨hV, V4⟩ V.toNat K (u := 0) (B := B) (by first | decide | omega) (by decide) (by first | decide | omega) hMD (fun s _ _ => hX.1 s)
  have eB : B0 = B1 := by
    have e0 : some ((0 : Int), F, B0) = some (r1, F, B1) := by rw [← x1, ← e1]; rfl
    simp only [Option.some.injEq, Prod.mk.injEq] at e0
    exact e0.2.2
  rw [eB] at x3
  have hR1 := RDW_q hR q1
  have hC1 : XC B1 := XC_f hC (fun i k x hk => q1.2 13 i k x (by first | decide | omega) (by first | decide | omega))
  have h71 : X77 B1 := X77_f h7 (fun i k x a b => q1.2 13 i k x (by first | decide | omega) (by first | decide | omega))
  obtain ⟨r2, F2, B2, e2, g2, q2, d2⟩ := s_columns (K := K) hK hR1 q1.1 hC1
  have hR2 := RDW_g (RDW_c hR1 q2) g2
  have hX2 := XS_c q1.1 q2
  have h72 : X77 B2 := X77_f h71 (fun i k x a b => q2.2 13 i k x (by first | decide | omega))
  obtain ⟨r3, F3, B3, e3, f3, z3, t3, m3⟩ := s_moments (K := K) hK hR2
  have hR3 := RDW_m hR2 f3 z3
  have hM3 : MW5 V w F3 B3 := ⟨t3, m3.1, fun u t a b c d => m3.2 u t a b c d (Or.inl b)⟩
  have h73 : X77 B3 := X77_f h72 (fun i k x a b => z3 13 i k x (by first | decide | omega))
  obtain ⟨r4, F4, B4, e4, q4⟩ := s_between (K := K) (by first | decide | omega) hR3 hM3 h73
  have hM4 := MW5_b hM3 q4
  have mx : MXk V w S F4 B4 := by
    have hR2' : SRm V w S F2 B2 := SRm_f hSR (g2 13 w 1 (by first | decide | omega)) (fun k x hk => by rw [q2.2 13 w k x (by first | decide | omega), q1.2 13 w k x (by first | decide | omega) (by first | decide | omega)])
    obtain ⟨Fa, Ba, Fb, Bb, y1, y2, y3⟩ := x_tail (K := K) hK hSG hR2'
    have ea := y1.symm.trans e3
    simp only [Option.some.injEq, Prod.mk.injEq] at ea
    rw [ea.2.1, ea.2.2] at y2
    have eb := y2.symm.trans e4
    simp only [Option.some.injEq, Prod.mk.injEq] at eb
    rw [eb.2.1, eb.2.2] at y3
    obtain ⟨Fc, Bc, v1, v2, v3⟩ := x_columns (K := K) hK hR1 q1.1
    have ec := v1.symm.trans e2
    simp only [Option.some.injEq, Prod.mk.injEq] at ec
    rw [ec.2.2] at v3
    exact ⟨y3.1, CXk_e v3 (fun k hk => by rw [q4.1 13 w k (by first | decide | omega), f3 13 w k (by first | decide | omega), g2 13 w k (by first | decide | omega)]) (fun k x hk => by rw [q4.2.2.1 13 w k x (by first | decide | omega), z3 13 w k x (by first | decide | omega)]), y3.2⟩
  have c6 : F2 14 0 6 = w := by rw [g2 14 0 6 (by first | decide | omega)]; exact h6
  have d6 : F3 14 0 6 = w := by rw [f3 14 0 6 (by first | decide | omega)]; exact c6
  have e6 : F4 14 0 6 = w := by rw [q4.1 14 0 6 (by first | decide | omega)]; exact d6
  have bb : ∀ c i k x, ¬ (c = 13 ∧ i = w ∧ 36 ≤ k) → ¬ (c = 14 ∧ i = 0 ∧ k = 58) → B4 c i k x = B c i k x := fun c i k x a b => by
    rw [q4.2.2.1 c i k x (by first | decide | omega), z3 c i k x (by first | decide | omega), q2.2 c i k x (by first | decide | omega), q1.2 c i k x (by first | decide | omega) (by first | decide | omega)]
  have e5 : B4 14 0 5 l1 = w1 := by rw [bb 14 0 5 l1 (by first | decide | omega) (by first | decide | omega)]; exact h5
  have ff : ∀ c i k, ¬ (c = 14 ∧ i = 0 ∧ k ≤ 1) → ¬ (c = 13 ∧ i = w ∧ (k = 72 ∨ k = 76)) → F4 c i k = F c i k := fun c i k a b => by
    rw [q4.1 c i k (by first | decide | omega), f3 c i k (by first | decide | omega), g2 c i k a]
  have hX4 : XS B4 := XS_f hX2 (fun i k x a b => by rw [q4.2.2.1 13 i k x (by first | decide | omega), z3 13 i k x (by first | decide | omega)]) (fun x => by rw [q4.2.2.1 14 0 58 x (by first | decide | omega), z3 14 0 58 x (by first | decide | omega)])
  have hC4 : XC B4 := XC_f q2.1 (fun i k x hk => by rw [q4.2.2.1 13 i k x (by first | decide | omega), z3 13 i k x (by first | decide | omega)])
  have d4 : CDm V w (F 13 w 7) 3200 B4 := CDm_a d2 (fun k x hk => by rw [q4.2.2.1 13 w k x (by first | decide | omega), z3 13 w k x (by first | decide | omega)])
  have r4 : ∀ k x, 36 ≤ k → k ≤ 41 → B4 13 w k x = B1 13 w k x := fun k x a b => by rw [q4.2.2.1 13 w k x (by first | decide | omega), z3 13 w k x (by first | decide | omega), q2.2 13 w k x (by first | decide | omega)]
  rw [f_M_read_57, h6, if_pos w0, if_pos (by unfold r32; omega), hV, if_pos (by unfold r32; omega), if_pos (Int.le_refl _), e1, zb_s, h6, if_pos w0, e2, zb_s, c6, if_pos w0, e3, zb_s, d6, if_pos w0, e4, zb_s, e6, if_pos w0, if_pos l0, e5, if_pos w1b.2, if_pos w1b]
  generalize hG : zup3 (zup3 (zup3 (zup3 (zup3 (zup3 (zup3 (zup3 (zup3 F4 13 w 48 0) 13 w 53 0) 13 w 54 0) 13 w 60 0) 13 w 65 0) 13 w 66 0) 13 w 0 1) 14 0 6 w1) 13 w1 0 0 = G
  have gn : ∀ c i k, ¬ (c = 14 ∧ i = 0 ∧ k = 6) → ¬ (c = 13 ∧ i = w1 ∧ k = 0) → ¬ (c = 13 ∧ i = w ∧ (k = 0 ∨ k = 48 ∨ k = 53 ∨ k = 54 ∨ k = 60 ∨ k = 65 ∨ k = 66)) → G c i k = F4 c i k := fun c i k a b d => by
    rw [← hG, zup3_v, if_neg (by first | decide | omega), zup3_v, if_neg (by first | decide | omega), zup3_v, if_neg (by first | decide | omega), zup3_v, if_neg (by first | decide | omega), zup3_v, if_neg (by first | decide | omega), zup3_v, if_neg (by first | decide | omega), zup3_v, if_neg (by first | decide | omega), zup3_v, if_neg (by first | decide | omega), zup3_v, if_neg (by first | decide | omega)]
  have bn : ∀ c i k x, ¬ (c = 14 ∧ i = 0 ∧ k = 5 ∧ x = l1) → (zup4 B4 14 0 5 l1 w) c i k x = B4 c i k x := fun c i k x a => by rw [zup4_v, if_neg a]
  refine ⟨G, zup4 B4 14 0 5 l1 w, rfl, fun c i k a b d => ?_, ⟨?_, ?_, ?_, ?_, ?_, ?_, ?_, ?_, ?_⟩, fun c i k x a b d => ?_, ?_, ?_, ?_, ?_, ?_, fun t t0 t1 j j0 j1 => SGr_f (x3 t t0 t1 j j0 j1) (fun k x a b => by rw [bn 13 w k x (by first | decide | omega), r4 k x a b]), MXk_e mx (fun k hk => gn 13 w k (by first | decide | omega) (by first | decide | omega) (by first | decide | omega)) (fun k x _ => bn 13 w k x (by first | decide | omega))⟩
  · rw [gn c i k (by first | decide | omega) (by first | decide | omega) (by first | decide | omega), ff c i k (by first | decide | omega) (by first | decide | omega)]
  · rw [← hG, zup3_v, if_neg (by first | decide | omega), zup3_v, if_pos (by first | decide | omega)]
  · rw [← hG, zup3_v, if_neg (by first | decide | omega), zup3_v, if_neg (by first | decide | omega), zup3_v, if_pos (by first | decide | omega)]
  · rw [← hG, zup3_v, if_pos (by first | decide | omega)]
  · rw [← hG, zup3_v, if_neg (by first | decide | omega), zup3_v, if_neg (by first | decide | omega), zup3_v, if_neg (by first | decide | omega), zup3_v, if_neg (by first | decide | omega), zup3_v, if_neg (by first | decide | omega), zup3_v, if_neg (by first | decide | omega), zup3_v, if_neg (by first | decide | omega), zup3_v, if_neg (by first | decide | omega), zup3_v, if_pos (by first | decide | omega)]
  · rw [← hG, zup3_v, if_neg (by first | decide | omega), zup3_v, if_neg (by first | decide | omega), zup3_v, if_neg (by first | decide | omega), zup3_v, if_neg (by first | decide | omega), zup3_v, if_neg (by first | decide | omega), zup3_v, if_neg (by first | decide | omega), zup3_v, if_neg (by first | decide | omega), zup3_v, if_pos (by first | decide | omega)]
  · rw [← hG, zup3_v, if_neg (by first | decide | omega), zup3_v, if_neg (by first | decide | omega), zup3_v, if_neg (by first | decide | omega), zup3_v, if_neg (by first | decide | omega), zup3_v, if_neg (by first | decide | omega), zup3_v, if_neg (by first | decide | omega), zup3_v, if_pos (by first | decide | omega)]
  · rw [← hG, zup3_v, if_neg (by first | decide | omega), zup3_v, if_neg (by first | decide | omega), zup3_v, if_neg (by first | decide | omega), zup3_v, if_neg (by first | decide | omega), zup3_v, if_neg (by first | decide | omega), zup3_v, if_pos (by first | decide | omega)]
  · rw [← hG, zup3_v, if_neg (by first | decide | omega), zup3_v, if_neg (by first | decide | omega), zup3_v, if_neg (by first | decide | omega), zup3_v, if_neg (by first | decide | omega), zup3_v, if_pos (by first | decide | omega)]
  · rw [← hG, zup3_v, if_neg (by first | decide | omega), zup3_v, if_neg (by first | decide | omega), zup3_v, if_neg (by first | decide | omega), zup3_v, if_pos (by first | decide | omega)]
  · rw [bn c i k x d, bb c i k x a b]
  · rw [zup4_v, if_pos (by first | decide | omega)]
  · exact XS_f hX4 (fun i k x a b => bn 13 i k x (by first | decide | omega)) (fun x => bn 14 0 58 x (by first | decide | omega))
  · exact XC_f hC4 (fun i k x hk => bn 13 i k x (by first | decide | omega))
  · exact X77_f q4.2.2.2 (fun i k x a b => bn 13 i k x (by first | decide | omega))
  · refine ⟨MW5_f hM4 (gn 13 w 72 (by first | decide | omega) (by first | decide | omega) (by first | decide | omega)) (fun k x _ => bn 13 w k x (by first | decide | omega)), ?_, ?_⟩
    · rw [gn 13 w 7 (by first | decide | omega) (by first | decide | omega) (by first | decide | omega), ff 13 w 7 (by first | decide | omega) (by first | decide | omega)]
      exact CDm_a d4 (fun k x _ => bn 13 w k x (by first | decide | omega))
    · rw [gn 13 w 76 (by first | decide | omega) (by first | decide | omega) (by first | decide | omega)]
      exact q4.2.1
end
end
section
section
/-! ===== a kept piece: the rows of signs are alike ===== -/
/-- a voice of a kept piece, as the reference's staves see it -/
theorem MDr_k {K : zK} {V p w u : Int} {F : zF} {B : zB} {Fm : zF} {Bm : zB} (h : PK K V p w F B Fm Bm) (u0 : 0 ≤ u) (u1 : u < V) (ns : NSq (F 6 p 2) (btV (F 6 p 4) (F 6 p 5)) (B 6 p 0 u) F B) : MDr w u (F 6 p 4) (F 6 p 5) (F 4 (B 6 p 0 u) 6).toNat (F 4 (B 6 p 0 u) 10) (cD (B 6 p 0 u) F B (F 6 p 2) (btV (F 6 p 4) (F 6 p 5))) Fm Bm := by
  obtain ⟨⟨_, h2, h3, _, _⟩, ⟨k2, _, k4, k5, _, _⟩, hv⟩ := h
  obtain ⟨⟨_, _, v3, _⟩, m, g, vk, _⟩ := hv u u0 u1
  obtain ⟨⟨a1, a2, a3⟩, a4, a5, a6, a7, a8, a9, a10, c, nw, qn, gb⟩ := vk
  obtain ⟨ns1, _⟩ := ns
  generalize B 6 p 0 u = q at *
  have em : (F 4 q 6).toNat = m := by omega
  have ec : F 4 q 10 = c := nw.2.1
  rw [em, ec]
  rw [ec] at ns1
  generalize hD : cD q F B (F 6 p 2) (btV (F 6 p 4) (F 6 p 5)) = D
  obtain ⟨d0, d1, d2, d3, d4⟩ := cD_s hD
  refine ⟨⟨h2, u0, (by first | decide | omega)⟩, ⟨by rw [d2]; exact k2.1.symm, by rw [d2]; exact k2.2.1, by rw [d2]; exact k2.2.2⟩, ⟨k4.1.symm, k5.1.symm, k4.2, k5.2, d4⟩, ⟨by rw [d3]; exact v3.1.symm, by rw [d3]; exact v3.2.1, by rw [d3]; exact v3.2.2⟩, ⟨by rw [d0]; exact ec, nw.2.2.2.1, nw.1.1, nw.1.2⟩, ⟨by rw [d1]; exact a1, a3⟩, fun i i0 i1 => ?_, fun t t0 t1 => ?_, fun i i0 i1 => ?_⟩
  · obtain ⟨x0, x1, x2, x3⟩ := cD_n hD ec i0 i1
    obtain ⟨n1, n2, n3, n4, _, _⟩ := nw.2.2.2.2 i i0 i1
    rw [x0, x1, x2, x3]
    exact ⟨⟨n1.1.symm, n1.2⟩, ⟨n2.1.symm, n2.2⟩, ⟨n3.2.2.1, n3.2.2.2, n3.1, n3.2.1⟩, ⟨n4.1.symm, n4.2⟩⟩
  · obtain ⟨i, rfl⟩ : ∃ i : Nat, t = i := ⟨t.toNat, (by first | decide | omega)⟩
    have hi : i < m := by omega
    obtain ⟨x4, x5, x6⟩ := cD_e hD a1 t0 t1
    obtain ⟨ev, _⟩ := a8 i hi
    obtain ⟨_, _, _, _, _, _, _, e8, _, _, ep⟩ := ev
    obtain ⟨p1, p2, p3, p4, _⟩ := ep
    have ti := a10.2.2.2 i hi
    unfold TIk at ti
    rw [x4, x5]
    refine ⟨⟨e8.1.symm, e8.2⟩, ⟨p2, p3⟩, (by first | decide | omega), fun k k0 k1 => ?_⟩
    obtain ⟨y6, y7⟩ := x6 k k0 k1
    obtain ⟨z1, z2, z3, z4⟩ := p4 k k0 k1
    rw [y6, y7]
    exact ⟨⟨z1.symm, z3⟩, ⟨z2.symm, z4⟩⟩
  · have := (ns1 i i0 i1).1
    have el : lED D i = lE q B i := by
      unfold lED lE
      by_cases z : i = 0
      · rw [if_pos z, if_pos z]
      · rw [if_neg z, if_neg z, (cD_n hD ec (show 0 ≤ i - 1 by omega) (show i - 1 < c by omega)).1]
    rw [(cD_n hD ec i0 i1).1, el]
    exact this
/-- the signs of note i of voice u -/
theorem acN_0 {D : zD} {i : Int} : 0 ≤ acN D i := by
  unfold acN stN
  split
  · exact Int.le_refl _
  · exact (acS_b _).1
def NAr (q w u i : Int) (B Bm : zB) : Prop := B 4 q 366 i = Bm 13 w 36 (800 * u + i) ∧ B 4 q 367 i = Bm 13 w 37 (800 * u + i) ∧ B 4 q 368 i = Bm 13 w 38 (800 * u + i) ∧ B 4 q 369 i = Bm 13 w 39 (800 * u + i) ∧ B 4 q 370 i = Bm 13 w 40 (800 * u + i) ∧ B 4 q 371 i = Bm 13 w 41 (800 * u + i) ∧ 0 ≤ B 4 q 367 i ∧ (0 < i → LX (B 4 q 361 (i - 1)) (B 4 q 9 (i - 1)) (B 4 q 361 i) (B 4 q 9 i))
def NAl (V p w : Int) (F : zF) (B Bm : zB) : Prop := ∀ u, 0 ≤ u → u < V → ∀ i, 0 ≤ i → i < F 4 (B 6 p 0 u) 10 → NAr (B 6 p 0 u) w u i B Bm
theorem NAl_e {V p w : Int} {F F' : zF} {B B' Bm Bm' : zB} (h : NAl V p w F B Bm) (b6 : ∀ u, 0 ≤ u → u < V → B' 6 p 0 u = B 6 p 0 u) (f4 : ∀ u, 0 ≤ u → u < V → F' 4 (B 6 p 0 u) 10 = F 4 (B 6 p 0 u) 10) (b4 : ∀ u, 0 ≤ u → u < V → ∀ k x, B' 4 (B 6 p 0 u) k x = B 4 (B 6 p 0 u) k x) (bm : ∀ k x, 36 ≤ k → k ≤ 41 → Bm' 13 w k x = Bm 13 w k x) : NAl V p w F' B' Bm' := fun u u0 u1 i i0 i1 => by
  rw [b6 u u0 u1] at i1 ⊢
  rw [f4 u u0 u1] at i1
  have := h u u0 u1 i i0 i1
  have bb := b4 u u0 u1
  have m36 : ∀ x, Bm' 13 w 36 x = Bm 13 w 36 x := fun x => bm 36 x (by decide) (by decide)
  have m37 : ∀ x, Bm' 13 w 37 x = Bm 13 w 37 x := fun x => bm 37 x (by decide) (by decide)
  have m38 : ∀ x, Bm' 13 w 38 x = Bm 13 w 38 x := fun x => bm 38 x (by decide) (by decide)
  have m39 : ∀ x, Bm' 13 w 39 x = Bm 13 w 39 x := fun x => bm 39 x (by decide) (by decide)
  have m40 : ∀ x, Bm' 13 w 40 x = Bm 13 w 40 x := fun x => bm 40 x (by decide) (by decide)
  have m41 : ∀ x, Bm' 13 w 41 x = Bm 13 w 41 x := fun x => bm 41 x (by decide) (by decide)
  unfold NAr at this ⊢
  simp only [bb, m36, m37, m38, m39, m40, m41]
  exact this
end
end
section
section
/-! ===== a kept piece's events as one sheet ===== -/
def sC (p : Int) (F : zF) (B : zB) : zV := fun u k i j => if k = 0 then F 4 (B 6 p 0 u) 6 else if k = 1 then F 1 (B 4 (B 6 p 0 u) 5 i) 0 else if k = 2 then F 1 (B 4 (B 6 p 0 u) 5 i) 10 else if k = 3 then B 1 (B 4 (B 6 p 0 u) 5 i) 12 j else B 1 (B 4 (B 6 p 0 u) 5 i) 13 j
theorem sC_v {p : Int} {F : zF} {B : zB} {u i j : Int} {S : zV} (h : sC p F B = S) : S u 0 i j = F 4 (B 6 p 0 u) 6 ∧ S u 1 i j = F 1 (B 4 (B 6 p 0 u) 5 i) 0 ∧ S u 2 i j = F 1 (B 4 (B 6 p 0 u) 5 i) 10 ∧ S u 3 i j = B 1 (B 4 (B 6 p 0 u) 5 i) 12 j ∧ S u 4 i j = B 1 (B 4 (B 6 p 0 u) 5 i) 13 j := by
  rw [← h]
  simp [sC]
theorem SG_k {K : zK} {V p w : Int} {F : zF} {B : zB} {Fm : zF} {Bm : zB} (h : PK K V p w F B Fm Bm) : ∃ S, SG V S ∧ SRm V w S Fm Bm := by
  obtain ⟨⟨h1, h2, h3, h4, h5⟩, ⟨k2, k3, k4, k5, k6, k7⟩, hv⟩ := h
  obtain ⟨_, _, bl⟩ := bar_v (n := F 6 p 4) (d := F 6 p 5) k4.2 k5.2
  generalize hS : sC p F B = S
  refine ⟨S, ⟨h3, fun u u0 u1 => ?_⟩, h2, h5, fun u u0 u1 => ?_⟩
  · obtain ⟨_, m, g, vk, _⟩ := hv u u0 u1
    obtain ⟨⟨a1, a2, a3⟩, a4, a5, a6, a7, a8, _⟩ := vk
    have e0 : S u 0 0 0 = m := by rw [(sC_v hS).1]; exact a1
    have s1 : ∀ i : Nat, i < m → S u 1 i 0 = sumZ g i := fun i hi => by rw [(sC_v hS).2.1]; exact (a8 i hi).2.1
    rw [e0]
    refine ⟨(by first | decide | omega), ?_, fun i i0 i1 => ?_, fun i i0 i1 => ?_⟩
    · have := s1 0 (by first | decide | omega)
      rw [show ((0 : Nat) : Int) = 0 from rfl] at this
      rw [this]
      rfl
    · obtain ⟨j, rfl⟩ : ∃ j : Nat, i = j := ⟨i.toNat, (by first | decide | omega)⟩
      have hj : j < m := by omega
      have t0 := sumZ_0 a5 j (by first | decide | omega)
      have t1 := sumZ_m a5 (m - j) j (by first | decide | omega)
      obtain ⟨ev, _⟩ := a8 j hj
      have ep := ev.2.2.2.2.2.2.2.2.2.2
      rw [s1 j hj, (sC_v hS).2.2.1]
      refine ⟨(by first | decide | omega), ep.2.2.1, fun k k0 k1 => ?_⟩
      rw [(sC_v hS).2.2.2.1, (sC_v hS).2.2.2.2]
      exact (ep.2.2.2.1 k k0 k1).2.2
    · obtain ⟨j, rfl⟩ : ∃ j : Nat, i = j := ⟨i.toNat, (by first | decide | omega)⟩
      have e := s1 (j + 1) (by first | decide | omega)
      rw [show ((j + 1 : Nat) : Int) = (j : Int) + 1 by omega] at e
      rw [s1 j (by first | decide | omega), e]
      have := a5 j (by first | decide | omega) (by first | decide | omega)
      show sumZ g j < sumZ g j + g j
      omega
  · obtain ⟨_, m, g, vk, _⟩ := hv u u0 u1
    obtain ⟨⟨a1, a2, a3⟩, a4, a5, a6, a7, a8, _⟩ := vk
    have e0 : S u 0 0 0 = m := by rw [(sC_v hS).1]; exact a1
    rw [e0]
    refine ⟨a4, fun i i0 i1 => ?_⟩
    obtain ⟨j, rfl⟩ : ∃ j : Nat, i = j := ⟨i.toNat, (by first | decide | omega)⟩
    obtain ⟨ev, q1, q2, q3, _⟩ := a8 j (by first | decide | omega)
    have ep := ev.2.2.2.2.2.2.2.2.2.2
    rw [(sC_v hS).2.1, q1, (sC_v hS).2.2.1]
    refine ⟨q2, q3, ep.2.1, fun k k0 k1 => ?_⟩
    rw [(sC_v hS).2.2.2.1, (sC_v hS).2.2.2.2]
    obtain ⟨z1, z2, _⟩ := ep.2.2.2.1 k k0 k1
    exact ⟨z1.symm, z2.symm⟩
end
end
section
section
/-! ===== what stands between calls: the tape and the pieces ===== -/
def IA (K : zK) (Km : Nat) : Prop := 3002 ≤ K.1 ∧ 70000000000 < Km ∧ (2 ≤ K.2 0 ∧ 0 ≤ K.2 2 ∧ 0 < K.2 3 ∧ 0 ≤ K.2 5 ∧ 0 < K.2 7 ∧ 0 ≤ K.2 8 ∧ 0 ≤ K.2 9 ∧ 0 < K.2 10 ∧ 0 < K.2 11 ∧ 0 < K.2 12)
def IB (F : zF) : Prop := F 12 0 0 = 0 ∧ F 12 0 2 = 1 ∧ F 12 0 4 = 0 ∧ F 12 0 5 = 0 ∧ F 12 0 6 = 0 ∧ F 3 0 11 = 0
def ID (K : zK) (B Bm : zB) : Prop := GS K B ∧ (∀ j, r32 (B 10 0 5 j)) ∧ (∀ q s, 0 ≤ q → q < K.2 4 → 0 ≤ s → s < 63 → r32 (B 4 q 12 s)) ∧ MW Bm ∧ XS Bm ∧ XC Bm ∧ X77 Bm
def IT (F : zF) (B : zB) (Fm : zF) (Bm : zB) : Prop := F 0 0 1 = Fm 14 0 3 ∧ 0 ≤ F 0 0 1 ∧ F 0 0 1 ≤ 3000 ∧ (∀ y, 0 ≤ B 0 0 0 y ∧ B 0 0 0 y < 256) ∧ tmB Bm = B 0 0 0
def SL (K : zK) (p w : Int) (F : zF) (B : zB) (Fm : zF) (Bm : zB) : Prop := (p < 0 ∧ Fm 13 w 0 = 0) ∨ (0 ≤ p ∧ Fm 13 w 0 = 1 ∧ ∃ V, PK K V p w F B Fm Bm ∧ MK V w Fm Bm)
/-- the places: the work piece and the two that are kept -/
def IW (w w0 w1 : Int) : Prop := (0 ≤ w ∧ w < 3) ∧ (0 ≤ w0 ∧ w0 < 3) ∧ (0 ≤ w1 ∧ w1 < 3) ∧ ¬ w0 = w ∧ ¬ w1 = w ∧ ¬ w0 = w1
def IQp (K : zK) (p p0 p1 : Int) : Prop := (p < K.2 6 ∧ p0 < K.2 6 ∧ p1 < K.2 6) ∧ (0 ≤ p → ¬ p0 = p ∧ ¬ p1 = p) ∧ (0 ≤ p0 → ¬ p0 = p1)
def slE (B : zB) (p : Int) : Int := if p < 0 then 0 else em B p
def slN (p : Int) : Int := if p < 0 then 1 else 0
def IG (K : zK) (p p0 p1 : Int) (B : zB) : Prop := K.2 6 + slN p + slN p0 + slN p1 = 3 ∧ K.2 4 + slE B p + slE B p0 + slE B p1 = 4 * K.2 6 ∧ K.2 1 = 1 + 200 * K.2 4
def IF (K : zK) (F : zF) : Prop := ∀ p, 0 ≤ p → p < K.2 6 → F 6 p 8 < K.2 2 ∧ F 6 p 9 < K.2 5 ∧ F 6 p 12 < K.2 9
def IC (K : zK) (Km : Nat) (p p0 p1 w w0 w1 : Int) (F : zF) (B : zB) (Fm : zF) (Bm : zB) : Prop := IA K Km ∧ IB F ∧ ID K B Bm ∧ IT F B Fm Bm ∧ (F 12 0 7 = p ∧ B 12 0 3 0 = p0 ∧ B 12 0 3 1 = p1 ∧ Fm 14 0 6 = w ∧ Bm 14 0 5 0 = w0 ∧ Bm 14 0 5 1 = w1) ∧ IW w w0 w1 ∧ IQp K p p0 p1 ∧ IG K p p0 p1 B ∧ IF K F ∧ SL K p0 w0 F B Fm Bm ∧ SL K p1 w1 F B Fm Bm
/-- a piece that is not touched stays as it is -/
theorem SL_e {K K' : zK} {p w : Int} {F F' : zF} {B B' : zB} {Fm Fm' : zF} {Bm Bm' : zB} (h : SL K p w F B Fm Bm) (hk : ∀ c, K.2 c ≤ K'.2 c) (f6 : 0 ≤ p → p < K.2 6 → ∀ k, k ≤ 7 → F' 6 p k = F 6 p k) (b6 : 0 ≤ p → p < K.2 6 → ∀ v, B' 6 p 0 v = B 6 p 0 v) (f4 : ∀ q k, 0 ≤ q → q < K.2 4 → (∃ u, 0 ≤ u ∧ u < 4 ∧ B 6 p 0 u = q) → 0 ≤ p → p < K.2 6 → F' 4 q k = F 4 q k ∧ ∀ x, B' 4 q k x = B 4 q k x) (f1 : ∀ q i k, 0 ≤ q → q < K.2 4 → (∃ u, 0 ≤ u ∧ u < 4 ∧ B 6 p 0 u = q) → 0 ≤ p → p < K.2 6 → 0 ≤ i → i < 200 → F' 1 (B 4 q 5 i) k = F 1 (B 4 q 5 i) k ∧ ∀ x, B' 1 (B 4 q 5 i) k x = B 1 (B 4 q 5 i) k x) (fm : ∀ k, Fm' 13 w k = Fm 13 w k) (bm : ∀ k x, Bm' 13 w k x = Bm 13 w k x) : SL K' p w F' B' Fm' Bm' := by
  rcases h with ⟨a, b⟩ | ⟨a, b, V, c, d⟩
  · exact Or.inl ⟨a, by rw [fm]; exact b⟩
  · refine Or.inr ⟨a, by rw [fm]; exact b, V, ?_, MK_e d ⟨fm 7, fm 72, fm 76⟩ (by funext k x; exact bm k x)⟩
    have hp := c.1.1
    have hV := c.1.2.2.1
    have hq : ∀ u, 0 ≤ u → u < V → (0 ≤ B 6 p 0 u ∧ B 6 p 0 u < K.2 4) := fun u u0 u1 => (c.2.2 u u0 u1).1.1
    refine PK_e c hk (f6 hp.1 hp.2) (by funext v; exact b6 hp.1 hp.2 v) (fun u u0 u1 => ?_) (fun u u0 u1 => ?_) (fun u i u0 u1 i0 i1 => ?_) (fun u i u0 u1 i0 i1 => ?_) (fun k _ _ => fm k) (fun k x _ => bm k x)
    · funext k; exact (f4 _ k (hq u u0 u1).1 (hq u u0 u1).2 ⟨u, u0, (by first | decide | omega), rfl⟩ hp.1 hp.2).1
    · funext k x; exact (f4 _ k (hq u u0 u1).1 (hq u u0 u1).2 ⟨u, u0, (by first | decide | omega), rfl⟩ hp.1 hp.2).2 x
    · funext k; exact (f1 _ i k (hq u u0 u1).1 (hq u u0 u1).2 ⟨u, u0, (by first | decide | omega), rfl⟩ hp.1 hp.2 i0 i1).1
    · funext k x; exact (f1 _ i k (hq u u0 u1).1 (hq u u0 u1).2 ⟨u, u0, (by first | decide | omega), rfl⟩ hp.1 hp.2 i0 i1).2 x
theorem slE_e {B B' : zB} {p : Int} (h : 0 ≤ p → ∀ v, B' 6 p 0 v = B 6 p 0 v) : slE B' p = slE B p := by
  unfold slE
  by_cases a : p < 0
  · rw [if_pos a, if_pos a]
  · rw [if_neg a, if_neg a]; exact em_e (h (by first | decide | omega))
/-- a work piece is made -/
theorem IC_new {K : zK} {Km : Nat} {p p0 p1 w w0 w1 : Int} {F : zF} {B : zB} {Fm : zF} {Bm : zB} (h : IC K Km p p0 p1 w w0 w1 F B Fm Bm) (hp : p < 0) : IC (K.1, zinN K.2 6) Km (K.2 6) p0 p1 w w0 w1 (zup3 (zinF F 6 (K.2 6) [0, 0, 0, 0, 0, 0, 0, 0, (-1), (-1), 0, 0, (-1), 0]) 12 0 7 (K.2 6)) (zinB B 6 (K.2 6) (fun k _ => if k = 0 then -1 else 0)) Fm Bm := by
  obtain ⟨⟨a1, a2, a3⟩, hB, ⟨d1, d2, d3, d4⟩, hT, ⟨n1, n2, n3, n4, n5, n6⟩, hW, hQ, hG, hF, s0, s1⟩ := h
  have k6 : 0 ≤ K.2 6 := (d1.1 6 (by decide)).1
  have k4 : 0 ≤ K.2 4 := (d1.1 4 (by decide)).1
  have kn : ∀ c, ¬ c = 6 → zinN K.2 6 c = K.2 c := fun c hc => by rw [zinN_v, if_neg hc]
  have k6' : zinN K.2 6 6 = K.2 6 + 1 := by rw [zinN_v, if_pos rfl]
  have hk : ∀ c, K.2 c ≤ zinN K.2 6 c := fun c => by
    rw [zinN_v]
    split
    · rename_i e; rw [e]; omega
    · exact Int.le_refl _
  generalize hF1 : zup3 (zinF F 6 (K.2 6) [0, 0, 0, 0, 0, 0, 0, 0, (-1), (-1), 0, 0, (-1), 0]) 12 0 7 (K.2 6) = F1
  generalize hB1 : zinB B 6 (K.2 6) (fun k _ => if k = 0 then -1 else 0) = B1
  have fn : ∀ c y k, ¬ (c = 6 ∧ y = K.2 6) → ¬ (c = 12 ∧ y = 0 ∧ k = 7) → F1 c y k = F c y k := fun c y k a b => by rw [← hF1, zup3_v, if_neg b, zinF_v, if_neg a]
  have bn : ∀ c y k x, ¬ (c = 6 ∧ y = K.2 6) → B1 c y k x = B c y k x := fun c y k x a => by rw [← hB1, zinB_v, if_neg a]
  have b6 : ∀ v, B1 6 (K.2 6) 0 v = -1 := fun v => by rw [← hB1, zinB_v, if_pos ⟨rfl, rfl⟩, if_pos rfl]
  have B0 : ∀ x, B1 0 0 0 x = B 0 0 0 x := fun x => bn 0 0 0 x (by first | decide | omega)
  have hsl : ∀ q w, q < K.2 6 → SL K q w F B Fm Bm → SL (K.1, zinN K.2 6) q w F1 B1 Fm Bm := fun q w hq s => SL_e s hk (fun a b k _ => fn 6 q k (by first | decide | omega) (by first | decide | omega)) (fun a b v => bn 6 q 0 v (by first | decide | omega)) (fun y k a b _ _ _ => ⟨fn 4 y k (by first | decide | omega) (by first | decide | omega), fun x => bn 4 y k x (by first | decide | omega)⟩) (fun y i k a b _ _ _ _ _ => ⟨fn 1 _ k (by first | decide | omega) (by first | decide | omega), fun x => bn 1 _ k x (by first | decide | omega)⟩) (fun _ => rfl) (fun _ _ => rfl)
  have em4 : em B1 (K.2 6) = 4 := by unfold em; rw [b6, b6, b6, b6]; decide
  have ee : ∀ q, q < K.2 6 → slE B1 q = slE B q := fun q hq => slE_e (fun _ v => bn 6 q 0 v (by first | decide | omega))
  refine ⟨⟨a1, a2, ?_⟩, ?_, ⟨?_, fun j => by rw [bn 10 0 5 j (by first | decide | omega)]; exact d2 j, fun q s q0 q1 s0 s1 => ?_, d4⟩, ?_, ⟨?_, by rw [bn 12 0 3 0 (by first | decide | omega)]; exact n2, by rw [bn 12 0 3 1 (by first | decide | omega)]; exact n3, n4, n5, n6⟩, hW, ?_, ?_, ?_, hsl p0 w0 hQ.1.2.1 s0, hsl p1 w1 hQ.1.2.2 s1⟩
  · show 2 ≤ zinN K.2 6 0 ∧ 0 ≤ zinN K.2 6 2 ∧ 0 < zinN K.2 6 3 ∧ 0 ≤ zinN K.2 6 5 ∧ 0 < zinN K.2 6 7 ∧ 0 ≤ zinN K.2 6 8 ∧ 0 ≤ zinN K.2 6 9 ∧ 0 < zinN K.2 6 10 ∧ 0 < zinN K.2 6 11 ∧ 0 < zinN K.2 6 12
    rw [kn 0 (by decide), kn 2 (by decide), kn 3 (by decide), kn 5 (by decide), kn 7 (by decide), kn 8 (by decide), kn 9 (by decide), kn 10 (by decide), kn 11 (by decide), kn 12 (by decide)]
    exact a3
  · unfold IB
    rw [fn 12 0 0 (by first | decide | omega) (by first | decide | omega), fn 12 0 2 (by first | decide | omega) (by first | decide | omega), fn 12 0 4 (by first | decide | omega) (by first | decide | omega), fn 12 0 5 (by first | decide | omega) (by first | decide | omega), fn 12 0 6 (by first | decide | omega) (by first | decide | omega), fn 3 0 11 (by first | decide | omega) (by first | decide | omega)]
    exact hB
  · obtain ⟨g1, g2, g3, g4, g5⟩ := d1
    have e4 : ∀ y x, B1 4 y 5 x = B 4 y 5 x := fun y x => bn 4 y 5 x (by first | decide | omega)
    refine ⟨fun c hc => ⟨Int.le_trans (g1 c hc).1 (hk c), Int.le_trans (g1 c hc).2 (hk 1)⟩, fun y v y0 y1 v0 v1 => ?_, fun y v y' v' y0 y1 v0 v1 y0' y1' v0' v1' z e => ?_, fun q x q0 q1 x0 x1 => ?_, fun q x q' x' q0 q1 x0 x1 q0' q1' x0' x1' e => ?_⟩
    · show B1 6 y 0 v < zinN K.2 6 4
      have y1 : y < zinN K.2 6 6 := y1
      rw [kn 4 (by decide)]
      by_cases e : y = K.2 6
      · rw [e, b6]; omega
      · rw [bn 6 y 0 v (by first | decide | omega)]; exact g2 y v y0 (by first | decide | omega) v0 v1
    · have y1 : y < zinN K.2 6 6 := y1
      have y1' : y' < zinN K.2 6 6 := y1'
      by_cases c : y = K.2 6
      · rw [c, b6] at z; omega
      · rw [bn 6 y 0 v (by first | decide | omega)] at z e
        by_cases c' : y' = K.2 6
        · rw [c', b6] at e; omega
        · rw [bn 6 y' 0 v' (by first | decide | omega)] at e
          exact g3 y v y' v' y0 (by first | decide | omega) v0 v1 y0' (by first | decide | omega) v0' v1' z e
    · have q1 : q < zinN K.2 6 4 := q1
      rw [kn 4 (by decide)] at q1
      rw [e4]
      show 1 ≤ B 4 q 5 x ∧ B 4 q 5 x < zinN K.2 6 1
      rw [kn 1 (by decide)]
      exact g4 q x q0 q1 x0 x1
    · have q1 : q < zinN K.2 6 4 := q1
      have q1' : q' < zinN K.2 6 4 := q1'
      rw [kn 4 (by decide)] at q1 q1'
      rw [e4, e4] at e
      exact g5 q x q' x' q0 q1 x0 x1 q0' q1' x0' x1' e
  · have q1 : q < zinN K.2 6 4 := q1
    rw [kn 4 (by decide)] at q1
    rw [bn 4 q 12 s (by first | decide | omega)]
    exact d3 q s q0 q1 s0 s1
  · unfold IT at *
    have : B1 0 0 0 = B 0 0 0 := by funext x; exact B0 x
    rw [this, fn 0 0 1 (by first | decide | omega) (by first | decide | omega)]
    exact hT
  · rw [← hF1, zup3_v, if_pos (by first | decide | omega)]
  · unfold IQp at *
    show (K.2 6 < zinN K.2 6 6 ∧ p0 < zinN K.2 6 6 ∧ p1 < zinN K.2 6 6) ∧ _
    omega
  · unfold IG at *
    show zinN K.2 6 6 + slN (K.2 6) + slN p0 + slN p1 = 3 ∧ zinN K.2 6 4 + slE B1 (K.2 6) + slE B1 p0 + slE B1 p1 = 4 * zinN K.2 6 6 ∧ zinN K.2 6 1 = 1 + 200 * zinN K.2 6 4
    rw [ee p0 hQ.1.2.1, ee p1 hQ.1.2.2, k6', kn 4 (by decide), kn 1 (by decide)]
    have : slE B1 (K.2 6) = 4 := by unfold slE; rw [if_neg (by first | decide | omega)]; exact em4
    have x1 : slN (K.2 6) = 0 := by unfold slN; rw [if_neg (by first | decide | omega)]
    have x2 : slN p = 1 := by unfold slN; rw [if_pos hp]
    have x3 : slE B p = 0 := by unfold slE; rw [if_pos hp]
    omega
  · intro y y0 y1
    have y1 : y < zinN K.2 6 6 := y1
    show F1 6 y 8 < zinN K.2 6 2 ∧ F1 6 y 9 < zinN K.2 6 5 ∧ F1 6 y 12 < zinN K.2 6 9
    rw [kn 2 (by decide), kn 5 (by decide), kn 9 (by decide)]
    by_cases e : y = K.2 6
    · rw [e, ← hF1, zup3_v, if_neg (by first | decide | omega), zup3_v, if_neg (by first | decide | omega), zup3_v, if_neg (by first | decide | omega), zinF_v, if_pos ⟨rfl, rfl⟩, zinF_v, if_pos ⟨rfl, rfl⟩, zinF_v, if_pos ⟨rfl, rfl⟩]
      show (-1 : Int) < K.2 2 ∧ (-1 : Int) < K.2 5 ∧ (-1 : Int) < K.2 9
      omega
    · rw [fn 6 y 8 (by first | decide | omega) (by first | decide | omega), fn 6 y 9 (by first | decide | omega) (by first | decide | omega), fn 6 y 12 (by first | decide | omega) (by first | decide | omega)]
      exact hF y y0 (by first | decide | omega)
end
end
section
section
/-! ===== a text read into the work piece, whatever comes of it: what stays ===== -/
def IR (K : zK) (Km : Nat) (p p0 p1 w w0 w1 : Int) (F : zF) (B : zB) (Fm : zF) (Bm : zB) : Prop := IA K Km ∧ IB F ∧ ID K B Bm ∧ (F 12 0 7 = p ∧ B 12 0 3 0 = p0 ∧ B 12 0 3 1 = p1 ∧ Fm 14 0 6 = w ∧ Bm 14 0 5 0 = w0 ∧ Bm 14 0 5 1 = w1) ∧ IW w w0 w1 ∧ IQp K p p0 p1 ∧ IG K p p0 p1 B ∧ IF K F ∧ SL K p0 w0 F B Fm Bm ∧ SL K p1 w1 F B Fm Bm
/-- what reading a text into piece p, w may change -/
def PhF (K K' : zK) (p w : Int) (F : zF) (B : zB) (Fm : zF) (Bm : zB) (F' : zF) (B' : zB) (Fm' : zF) (Bm' : zB) : Prop :=
  (K'.1 = K.1 ∧ (∀ c, K.2 c ≤ K'.2 c) ∧ (∀ c, ¬ (c = 1 ∨ c = 4) → K'.2 c = K.2 c) ∧ K'.2 1 = K.2 1 + 200 * (K'.2 4 - K.2 4) ∧ K'.2 4 + em B' p = K.2 4 + em B p) ∧
  (∀ c y k, y < K.2 c → ¬ (c = 0 ∧ y = 0) → ¬ (c = 10 ∧ y = 0) → ¬ (c = 3 ∧ y = 0 ∧ k ≠ 11) → ¬ (c = 11 ∧ y = 0) → ¬ (c = 6 ∧ y = p ∧ (1 ≤ k ∧ k ≤ 7 ∨ k = 10 ∨ k = 11 ∨ k = 13)) → ¬ (c = 2 ∧ y = F 6 p 8 ∧ k = 0) → ¬ (c = 4 ∧ ∃ v, 0 ≤ v ∧ v < 4 ∧ y = B 6 p 0 v) → ¬ (c = 1 ∧ ∃ v, 0 ≤ v ∧ v < 4 ∧ 0 ≤ B' 6 p 0 v ∧ ownE B' (B' 6 p 0 v) y) → F' c y k = F c y k) ∧
  (∀ c y k x, y < K.2 c → ¬ (c = 3 ∧ y = 0) → ¬ (c = 10 ∧ y = 0) → ¬ (c = 11 ∧ y = 0) → ¬ (c = 6 ∧ y = p ∧ k = 0) → ¬ (c = 4 ∧ 5 ≤ k ∧ ∃ v, 0 ≤ v ∧ v < 4 ∧ y = B 6 p 0 v) → ¬ (c = 1 ∧ ∃ v, 0 ≤ v ∧ v < 4 ∧ 0 ≤ B' 6 p 0 v ∧ ownE B' (B' 6 p 0 v) y) → B' c y k x = B c y k x) ∧
  (∀ v, 0 ≤ v → v < 4 → B' 6 p 0 v = B 6 p 0 v ∨ (B 6 p 0 v < 0 ∧ K.2 4 ≤ B' 6 p 0 v)) ∧
  (∀ c i k, ¬ (c = 14 ∧ i = 0 ∧ (k ≤ 1 ∨ k = 3 ∨ (12 ≤ k ∧ k ≤ 57))) → ¬ (c = 13 ∧ i = w ∧ 1 ≤ k ∧ k ≤ 7) → Fm' c i k = Fm c i k) ∧
  (∀ c i k x, ¬ (c = 14 ∧ i = 0 ∧ (7 ≤ k ∧ k ≤ 11 ∨ 25 ≤ k ∧ k ≤ 34 ∨ 42 ≤ k ∧ k ≤ 51)) → ¬ (c = 13 ∧ i = w ∧ 8 ≤ k ∧ k ≤ 35) → Bm' c i k x = Bm c i k x) ∧
  (GS K' B' ∧ (∀ j, r32 (B' 10 0 5 j)) ∧ (∀ q s, 0 ≤ q → q < K'.2 4 → 0 ≤ s → s < 63 → r32 (B' 4 q 12 s)))
theorem IR_ph {K K' : zK} {Km : Nat} {p p0 p1 w w0 w1 : Int} {F F' : zF} {B B' : zB} {Fm Fm' : zF} {Bm Bm' : zB} (h : IR K Km p p0 p1 w w0 w1 F B Fm Bm) (hp : 0 ≤ p) (f : PhF K K' p w F B Fm Bm F' B' Fm' Bm') : IR K' Km p p0 p1 w w0 w1 F' B' Fm' Bm' := by
  obtain ⟨⟨a1, a2, a3⟩, hB, ⟨d1, d2, d3, d4, d5, d6, d7⟩, ⟨n1, n2, n3, n4, n5, n6⟩, hW, hQ, hG, hF, s0, s1⟩ := h
  obtain ⟨⟨k1, k2, k3, k4, k5⟩, fF, fB, fS, fM, fN, g1, g2, g3⟩ := f
  obtain ⟨⟨q1, q2, q3⟩, q4, q5⟩ := hQ
  have kk : ∀ c, ¬ (c = 1 ∨ c = 4) → K'.2 c = K.2 c := k3
  have f12 : ∀ k, F' 12 0 k = F 12 0 k := fun k => fF 12 0 k (by first | decide | omega) (by first | decide | omega) (by first | decide | omega) (by first | decide | omega) (by first | decide | omega) (by first | decide | omega) (by first | decide | omega) (by first | decide | omega) (by first | decide | omega)
  have b12 : ∀ k x, B' 12 0 k x = B 12 0 k x := fun k x => fB 12 0 k x (by first | decide | omega) (by first | decide | omega) (by first | decide | omega) (by first | decide | omega) (by first | decide | omega) (by first | decide | omega) (by first | decide | omega)
  have b6 : ∀ y, y < K.2 6 → ¬ y = p → ∀ k x, B' 6 y k x = B 6 y k x := fun y hy hn k x => fB 6 y k x hy (by first | decide | omega) (by first | decide | omega) (by first | decide | omega) (by first | decide | omega) (by first | decide | omega) (by first | decide | omega)
  have hsl : ∀ y v, ¬ y = p → ¬ v = w → SL K y v F B Fm Bm → SL K' y v F' B' Fm' Bm' := fun y v hy hv s => by
    have np : ∀ q, (∃ u, 0 ≤ u ∧ u < 4 ∧ B 6 y 0 u = q) → 0 ≤ q → 0 ≤ y → y < K.2 6 → ¬ ∃ u, 0 ≤ u ∧ u < 4 ∧ q = B 6 p 0 u := fun q ⟨u, u0, u1, e⟩ hq y0 y1 ⟨u', u0', u1', e'⟩ => hy (d1.2.2.1 y u p u' y0 y1 u0 u1 hp q1 u0' u1' (by first | decide | omega) (by first | decide | omega)).1
    refine SL_e s k2 (fun y0 y1 k _ => fF 6 y k y1 (by first | decide | omega) (by first | decide | omega) (by first | decide | omega) (by first | decide | omega) (by first | decide | omega) (by first | decide | omega) (by first | decide | omega) (by first | decide | omega)) (fun y0 y1 v => b6 y y1 hy 0 v) (fun q k a b e y0 y1 => ?_) (fun q i k a b e y0 y1 i0 i1 => ?_) (fun k => fM 13 v k (by first | decide | omega) (by first | decide | omega)) (fun k x => fN 13 v k x (by first | decide | omega) (by first | decide | omega))
    · have := np q e a y0 y1
      exact ⟨fF 4 q k b (by first | decide | omega) (by first | decide | omega) (by first | decide | omega) (by first | decide | omega) (by first | decide | omega) (by first | decide | omega) (fun z => this z.2) (by first | decide | omega), fun x => fB 4 q k x b (by first | decide | omega) (by first | decide | omega) (by first | decide | omega) (by first | decide | omega) (fun z => this z.2.2) (by first | decide | omega)⟩
    · have nq := np q e a y0 y1
      have hi := d1.2.2.2.1 q i a b i0 i1
      have b5 : B' 4 q 5 i = B 4 q 5 i := fB 4 q 5 i b (by first | decide | omega) (by first | decide | omega) (by first | decide | omega) (by first | decide | omega) (fun z => nq z.2.2) (by first | decide | omega)
      have no : ¬ ∃ v, 0 ≤ v ∧ v < 4 ∧ 0 ≤ B' 6 p 0 v ∧ ownE B' (B' 6 p 0 v) (B 4 q 5 i) := fun ⟨t, t0, t1, t2, j, j0, j1, je⟩ => by
        have l := g1.2.1 p t hp (by rw [kk 6 (by decide)]; exact q1) t0 t1
        have := (g1.2.2.2.2 (B' 6 p 0 t) j q i t2 l j0 j1 a (Int.lt_of_lt_of_le b (k2 4)) i0 i1 (by rw [je, b5])).1
        rcases fS t t0 t1 with z | z
        · exact nq ⟨t, t0, t1, (by first | decide | omega)⟩
        · omega
      exact ⟨fF 1 _ k hi.2 (by first | decide | omega) (by first | decide | omega) (by first | decide | omega) (by first | decide | omega) (by first | decide | omega) (by first | decide | omega) (by first | decide | omega) (fun z => no z.2), fun x => fB 1 _ k x hi.2 (by first | decide | omega) (by first | decide | omega) (by first | decide | omega) (by first | decide | omega) (by first | decide | omega) (fun z => no z.2)⟩
  have w13 : ∀ i k x, 36 ≤ k → Bm' 13 i k x = Bm 13 i k x := fun i k x hk => fN 13 i k x (by first | decide | omega) (by first | decide | omega)
  refine ⟨⟨by rw [k1]; exact a1, a2, ?_⟩, ?_, ⟨g1, g2, g3, ?_, XS_f d5 (fun i k x a b => w13 i k x a) (fun x => fN 14 0 58 x (by first | decide | omega) (by first | decide | omega)), XC_f d6 (fun i k x hk => w13 i k x (by first | decide | omega)), X77_f d7 (fun i k x a b => w13 i k x (by first | decide | omega))⟩, ⟨by rw [f12]; exact n1, by rw [b12]; exact n2, by rw [b12]; exact n3, by rw [fM 14 0 6 (by first | decide | omega) (by first | decide | omega)]; exact n4, by rw [fN 14 0 5 0 (by first | decide | omega) (by first | decide | omega)]; exact n5, by rw [fN 14 0 5 1 (by first | decide | omega) (by first | decide | omega)]; exact n6⟩, hW, ?_, ?_, ?_, hsl p0 w0 (q4 hp).1 hW.2.2.2.1 s0, hsl p1 w1 (q4 hp).2 hW.2.2.2.2.1 s1⟩
  · rw [kk 0 (by decide), kk 2 (by decide), kk 3 (by decide), kk 5 (by decide), kk 7 (by decide), kk 8 (by decide), kk 9 (by decide), kk 10 (by decide), kk 11 (by decide), kk 12 (by decide)]
    exact a3
  · unfold IB at *
    rw [f12, f12, f12, f12, f12, fF 3 0 11 (by first | decide | omega) (by first | decide | omega) (by first | decide | omega) (by first | decide | omega) (by first | decide | omega) (by first | decide | omega) (by first | decide | omega) (by first | decide | omega) (by first | decide | omega)]
    exact hB
  · unfold MW at *
    have r : ∀ k, 13 ≤ k → k ≤ 15 → Bm' 14 0 k = Bm 14 0 k := fun k a b => by funext y; exact fN 14 0 k y (by first | decide | omega) (by first | decide | omega)
    rw [r 13 (by decide) (by decide), r 14 (by decide) (by decide), r 15 (by decide) (by decide)]
    exact d4
  · unfold IQp
    rw [kk 6 (by decide)]
    exact ⟨⟨q1, q2, q3⟩, q4, q5⟩
  · unfold IG at *
    have e0 : slE B' p0 = slE B p0 := slE_e (fun a v => b6 p0 q2 (q4 hp).1 0 v)
    have e1 : slE B' p1 = slE B p1 := slE_e (fun a v => b6 p1 q3 (q4 hp).2 0 v)
    have e : ∀ C : zB, slE C p = em C p := fun C => by unfold slE; rw [if_neg (by first | decide | omega)]
    rw [kk 6 (by decide), e0, e1, e B']
    rw [e B] at hG
    omega
  · intro y y0 y1
    rw [kk 6 (by decide)] at y1
    rw [kk 2 (by decide), kk 5 (by decide), kk 9 (by decide)]
    have g : ∀ k, ¬ (1 ≤ k ∧ k ≤ 7 ∨ k = 10 ∨ k = 11 ∨ k = 13) → F' 6 y k = F 6 y k := fun k hk => fF 6 y k y1 (by first | decide | omega) (by first | decide | omega) (by first | decide | omega) (by first | decide | omega) (by first | decide | omega) (by first | decide | omega) (by first | decide | omega) (by first | decide | omega)
    rw [g 8 (by decide), g 9 (by decide), g 12 (by decide)]
    exact hF y y0 y1
/-- the work piece is cleared -/
theorem C_pclr {K : zK} {p : Int} {F : zF} {B : zB} (hp : 0 ≤ p ∧ p < K.2 6) (h8 : F 6 p 8 < K.2 2) : ∃ F', f_Piece_clear K p F B = some (0, F', B) ∧ (∀ c y k, ¬ (c = 6 ∧ y = p ∧ (1 ≤ k ∧ k ≤ 7 ∨ k = 10 ∨ k = 11 ∨ k = 13)) → ¬ (c = 2 ∧ y = F 6 p 8 ∧ k = 0) → F' c y k = F c y k) ∧ (F' 6 p 1 = 0 ∧ F' 6 p 2 = 0 ∧ F' 6 p 3 = 0 ∧ F' 6 p 4 = 4 ∧ F' 6 p 5 = 4 ∧ F' 6 p 6 = 120 ∧ F' 6 p 10 = 0 ∧ F' 6 p 11 = 0 ∧ F' 6 p 13 = 0) ∧ (0 ≤ F 6 p 8 → F' 2 (F 6 p 8) 0 = 0) := by
  unfold f_Piece_clear f_Piece_clear_66
  rw [if_pos hp]
  by_cases a : F 6 p 8 < 0
  · rw [if_pos a]
    refine ⟨_, rfl, fun c y k b d => ?_, ⟨?_, ?_, ?_, ?_, ?_, ?_, ?_, ?_, ?_⟩, fun z => (by first | decide | omega)⟩
    · rw [zup3_v, if_neg (by first | decide | omega), zup3_v, if_neg (by first | decide | omega), zup3_v, if_neg (by first | decide | omega), zup3_v, if_neg (by first | decide | omega), zup3_v, if_neg (by first | decide | omega), zup3_v, if_neg (by first | decide | omega), zup3_v, if_neg (by first | decide | omega), zup3_v, if_neg (by first | decide | omega), zup3_v, if_neg (by first | decide | omega), zup3_v, if_neg (by first | decide | omega)]
    all_goals simp [zup3_v]
  · rw [if_neg a, if_pos (by first | decide | omega)]
    refine ⟨_, rfl, fun c y k b d => ?_, ⟨?_, ?_, ?_, ?_, ?_, ?_, ?_, ?_, ?_⟩, fun z => ?_⟩
    · rw [zup3_v, if_neg (by first | decide | omega), zup3_v, if_neg (by first | decide | omega), zup3_v, if_neg (by first | decide | omega), zup3_v, if_neg (by first | decide | omega), zup3_v, if_neg (by first | decide | omega), zup3_v, if_neg (by first | decide | omega), zup3_v, if_neg (by first | decide | omega), zup3_v, if_neg (by first | decide | omega), zup3_v, if_neg (by first | decide | omega), zup3_v, if_neg (by first | decide | omega), zup3_v, if_neg (by first | decide | omega)]
    all_goals simp [zup3_v]
end
end
section
section
/-! ===== read, both sides ===== -/
theorem PhF_1 {K K3 : zK} {p w : Int} {F F2 F3 F4 : zF} {B B3 : zB} {Fm Fm3 : zF} {Bm Bm3 : zB} (h2 : ∀ c y k, ¬ (c = 6 ∧ y = p ∧ (1 ≤ k ∧ k ≤ 7 ∨ k = 10 ∨ k = 11 ∨ k = 13)) → ¬ (c = 2 ∧ y = F 6 p 8 ∧ k = 0) → F2 c y k = F c y k) (f : PF K p w F2 B Fm Bm K3 F3 B3 Fm3 Bm3) (g : GS K3 B3) (r : ∀ q s, 0 ≤ q → q < K.2 4 → 0 ≤ s → s < 63 → r32 (B 4 q 12 s)) (h4 : ∀ c y k, ¬ (c = 0 ∧ y = 0) → F4 c y k = F3 c y k) : PhF K K3 p w F B Fm Bm F4 B3 Fm3 Bm3 := by
  obtain ⟨a1, a2, a3, a4, a5, a6, a7, a8, ⟨a9, a10, a11⟩, _, _⟩ := f
  refine ⟨⟨a1.1, a1.2, a9, a10, a11⟩, fun c y k y1 b1 b2 b3 b4 b5 b6 b7 b8 => ?_, fun c y k x y1 b1 b2 b3 b4 b5 b6 => a3 c y k x y1 b1 b2 b4, a4, fun c i k b1 b2 => a5 c i k (by first | decide | omega) (by first | decide | omega), fun c i k x b1 b2 => a6 c i k x (by first | decide | omega) (by first | decide | omega), g, a7, fun q s q0 q1 s0 s1 => ?_⟩
  · rw [h4 c y k b1, a2 c y k y1 b2 b3 (by first | decide | omega) b7, h2 c y k b5 b6]
  · by_cases e : q < K.2 4
    · rw [a3 4 q 12 s e (by first | decide | omega) (by first | decide | omega) (by first | decide | omega)]; exact r q s q0 e s0 s1
    · exact a8 q s (by first | decide | omega) q1
theorem PhF_2 {K K3 : zK} {p w : Int} {F F3 F1 F' : zF} {B B3 B1 : zB} {Fm Fm3 Fm1 Fm' : zF} {Bm Bm3 Bm1 : zB} (hp : 0 ≤ p ∧ p < K.2 6) (f : PhF K K3 p w F B Fm Bm F3 B3 Fm3 Bm3) (v : VTF p w F3 B3 (zup3 Fm3 14 0 35 0) Bm3 F1 B1 Fm1 Bm1) (g : GS K3 B1) (h1 : ∀ c y k, ¬ (c = 0 ∧ y = 0 ∧ (k = 1 ∨ k = 2)) → ¬ (c = 6 ∧ y = p ∧ k = 7) → F' c y k = F1 c y k) (h2 : ∀ c y j, ¬ (c = 14 ∧ y = 0 ∧ (j ≤ 1 ∨ j = 17 ∨ j = 18)) → Fm' c y j = Fm1 c y j) (k10 : 0 < K.2 10) : PhF K K3 p w F B Fm Bm F' B1 Fm' Bm1 := by
  obtain ⟨⟨k1, k2, k3, k4, k5⟩, fF, fB, fS, fM, fN, g1, g2, g3⟩ := f
  obtain ⟨v1, v2, v3, v4, v5, v6⟩ := v
  have e6 : ∀ u, B1 6 p 0 u = B3 6 p 0 u := fun u => v2 6 p 0 u (by first | decide | omega) (by first | decide | omega) (by first | decide | omega)
  have own : ∀ y, (∃ u, 0 ≤ u ∧ u < 4 ∧ 0 ≤ B3 6 p 0 u ∧ ownE B3 (B3 6 p 0 u) y) → ∃ u, 0 ≤ u ∧ u < 4 ∧ 0 ≤ B1 6 p 0 u ∧ ownE B1 (B1 6 p 0 u) y := fun y ⟨u, u0, u1, u2, u3⟩ => ⟨u, u0, u1, by rw [e6]; exact u2, by rw [e6]; exact (v3 u y u0 u1).mpr u3⟩
  have old : ∀ y, y < K.2 4 → (∃ u, 0 ≤ u ∧ u < 4 ∧ 0 ≤ B3 6 p 0 u ∧ y = B3 6 p 0 u) → ∃ u, 0 ≤ u ∧ u < 4 ∧ y = B 6 p 0 u := fun y hy ⟨u, u0, u1, u2, u3⟩ => by
    rcases fS u u0 u1 with z | z
    · exact ⟨u, u0, u1, (by first | decide | omega)⟩
    · omega
  refine ⟨⟨k1, k2, k3, k4, by rw [em_e e6]; exact k5⟩, fun c y k y1 b1 b2 b3 b4 b5 b6 b7 b8 => ?_, fun c y k x y1 b1 b2 b3 b4 b5 b6 => ?_, fun u u0 u1 => by rw [e6]; exact fS u u0 u1, fun c i k b1 b2 => ?_, fun c i k x b1 b2 => ?_, g, fun j => ?_, fun q s q0 q1 s0 s1 => v6 q (fun t t0 t1 => g3 q t q0 q1 t0 t1) s s0 s1⟩
  · rw [h1 c y k (by first | decide | omega) (by first | decide | omega), v1 c y k b4 (fun z => b7 ⟨z.1, old y (by have := z.1; subst this; exact y1) z.2.2⟩) (fun z => b8 ⟨z.1, own y z.2⟩), fF c y k y1 b1 b2 b3 b4 b5 b6 b7 (fun z => b8 ⟨z.1, own y z.2⟩)]
  · rw [v2 c y k x b3 (fun z => b5 ⟨z.1, z.2.1, old y (by have := z.1; subst this; exact y1) z.2.2⟩) (fun z => b6 ⟨z.1, own y z.2⟩), fB c y k x y1 b1 b2 b3 b4 b5 (fun z => b6 ⟨z.1, own y z.2⟩)]
  · rw [h2 c i k (by first | decide | omega), v4 c i k (by first | decide | omega) (by first | decide | omega), zup3_v, if_neg (by first | decide | omega), fM c i k b1 b2]
  · rw [v5 c i k x (by first | decide | omega) (by first | decide | omega), fN c i k x b1 b2]
  · rw [v2 10 0 5 j (by first | decide | omega) (by first | decide | omega) (by first | decide | omega)]; exact g2 j
theorem zb_as {x : zO} {t : zF → zB → zO} {k : Int → zF → zB → zO} : zbind x (fun _ F B => zbind (t F B) k) = zbind (zbind x (fun _ F B => t F B)) k := by
  cases x with
  | none => rfl
  | some q => rfl
end
end
section
section
/-! ===== read, both sides: what comes of it ===== -/
/-- a text that was read, and its piece kept at place l1 -/
def RdK (K : zK) (V p w wl l1 : Int) (F : zF) (B : zB) (Fm : zF) (Bm : zB) (Fm' : zF) (Bm' : zB) : Prop := (∀ c i k, ¬ (c = 14 ∧ i = 0 ∧ (k ≤ 1 ∨ k = 6)) → ¬ (c = 13 ∧ i = w ∧ (k = 0 ∨ 8 ≤ k)) → ¬ (c = 13 ∧ i = wl ∧ k = 0) → Fm' c i k = Fm c i k) ∧ (Fm' 14 0 6 = wl ∧ Fm' 13 w 0 = 1 ∧ Fm' 13 wl 0 = 0 ∧ Fm' 13 w 48 = 0 ∧ Fm' 13 w 53 = 0 ∧ Fm' 13 w 54 = 0 ∧ Fm' 13 w 60 = 0 ∧ Fm' 13 w 65 = 0 ∧ Fm' 13 w 66 = 0) ∧ (∀ c i k x, ¬ (c = 13 ∧ i = w ∧ (k = 20 ∨ 36 ≤ k)) → ¬ (c = 14 ∧ i = 0 ∧ k = 58) → ¬ (c = 14 ∧ i = 0 ∧ k = 5 ∧ x = l1) → Bm' c i k x = Bm c i k x) ∧ Bm' 14 0 5 l1 = w ∧ (XS Bm' ∧ XC Bm' ∧ X77 Bm') ∧ PK K V p w F B Fm' Bm' ∧ MK V w Fm' Bm' ∧ NAl V p w F B Bm' ∧ ∃ S, SG V S ∧ MXk V w S Fm' Bm'
theorem P_rdOK {K : zK} {Km : Nat} {N L V p w wl l1 : Int} {F3 F1 F5 : zF} {B3 B1 : zB} {Fm3 Fm1 Fm5 : zF} {Bm3 Bm1 : zB} (hI : VI K Km N L V N p w F3 B3 Fm3 Bm3) (V1 : 1 ≤ V) (v : VTF p w F3 B3 (zup3 Fm3 14 0 35 0) Bm3 F1 B1 Fm1 Bm1) (h1 : ∀ c y k, ¬ (c = 0 ∧ y = 0 ∧ (k = 1 ∨ k = 2)) → ¬ (c = 6 ∧ y = p ∧ k = 7) → F5 c y k = F1 c y k) (h2 : ∀ c y j, ¬ (c = 14 ∧ y = 0 ∧ (j ≤ 1 ∨ j = 17 ∨ j = 18)) → Fm5 c y j = Fm1 c y j) (h17 : Fm5 14 0 17 = 0) (h7 : F5 6 p 7 = Fm5 13 w 7 ∧ 0 ≤ F5 6 p 7 ∧ F5 6 p 7 ≤ 100 ∧ ∀ u, 0 ≤ u → u < V → Fm5 13 w 7 = clB (F1 4 (B1 6 p 0 u) 7) (barV (F3 6 p 4) (F3 6 p 5))) (hS : VLS K Km N L V p w (F3 6 p 4) (F3 6 p 5) V B3 (byB N Bm3) F1 B1 Fm1 Bm1) (x : XS Bm1 ∧ XC Bm1 ∧ X77 Bm1) (l0 : 0 ≤ l1 ∧ l1 < 2) (h5 : Bm1 14 0 5 l1 = wl) (wb : 0 ≤ wl ∧ wl < 3) (hw : ¬ wl = w) : ∃ Fm' Bm', f_M_read_35 Km l1 Fm5 Bm1 = some (0, Fm', Bm') ∧ RdK K V p w wl l1 F5 B1 Fm5 Bm1 Fm' Bm' := by
  obtain ⟨⟨hE, hPS, hHP, _⟩, hGS, iV1, iV2, iV3, hVv⟩ := hI
  obtain ⟨p0, w0, e6, k2, k3, k4, k5, k6, _⟩ := hHP
  obtain ⟨v1, v2, v3, v4, v5, v6⟩ := v
  obtain ⟨⟨hK, hKm, _⟩, _, _, hU, hD, _⟩ := hS
  have f6 : ∀ k, ¬ k = 7 → F5 6 p k = F3 6 p k := fun k hk => by rw [h1 6 p k (by first | decide | omega) (by first | decide | omega), v1 6 p k (by first | decide | omega) (by first | decide | omega) (by first | decide | omega)]
  have m13 : ∀ k, ¬ k = 7 → Fm5 13 w k = Fm3 13 w k := fun k hk => by rw [h2 13 w k (by first | decide | omega), v4 13 w k (by first | decide | omega) (by first | decide | omega), zup3_v, if_neg (by first | decide | omega)]
  have g6 : Fm5 14 0 6 = w := by rw [h2 14 0 6 (by first | decide | omega), v4 14 0 6 (by first | decide | omega) (by first | decide | omega), zup3_v, if_neg (by first | decide | omega)]; exact e6
  have gV : Fm5 13 w 1 = V := by rw [m13 1 (by first | decide | omega)]; exact iV2
  have b6 : ∀ u, B1 6 p 0 u = B3 6 p 0 u := fun u => v2 6 p 0 u (by first | decide | omega) (by first | decide | omega) (by first | decide | omega)
  obtain ⟨Bx, n', n0, y1, y2, y3⟩ := L_r57 (K := Km) (l1 := l1) (F := Fm5) (by first | decide | omega) w0 g6 gV iV3.2 V.toNat Km (u := 0) (B := Bm1) (by first | decide | omega) (by first | decide | omega) (by first | decide | omega) (fun t t0 t1 => by
    obtain ⟨m, g, d, _⟩ := hD t t0 t1
    refine ⟨m, d.2.1, d.1.2.2, fun i hi => ?_⟩
    have := (d.2.2.2.2.2.1 i hi).1.2.2.2.2.2.2.2.2.2.2.1
    exact ⟨this.2.1, this.2.2.1⟩)
  obtain ⟨n', rfl⟩ : ∃ j, n' = j + 1 := ⟨n' - 1, (by first | decide | omega)⟩
  have yx : ∀ k x, ¬ k = 20 → Bx 13 w k x = Bm1 13 w k x := fun k x hk => y3 13 w k x (by first | decide | omega)
  have PK0 : PK K V p w F5 B1 Fm5 Bx := by
    refine ⟨⟨p0, w0, ⟨V1, iV3.2⟩, by rw [f6 1 (by decide)]; exact iV1, gV⟩, ⟨by rw [f6 2 (by decide), m13 2 (by decide)]; exact k2, by rw [f6 3 (by decide), m13 3 (by decide)]; exact k3, by rw [f6 4 (by decide), m13 4 (by decide)]; exact k4, by rw [f6 5 (by decide), m13 5 (by decide)]; exact k5, by rw [f6 6 (by decide), m13 6 (by decide)]; exact k6, ⟨h7.1, h7.2.1, h7.2.2.1⟩⟩, fun u u0 u1 => ?_⟩
    obtain ⟨vr, _⟩ := hVv u u0 u1
    obtain ⟨r1, r2, r3, r4, r5, _, _, _, _, _, r11, r12⟩ := vr
    have q4 : ∀ k, k < 6 → F5 4 (B3 6 p 0 u) k = F3 4 (B3 6 p 0 u) k := fun k hk => by rw [h1 4 _ k (by first | decide | omega) (by first | decide | omega), v1 4 _ k (by first | decide | omega) (by first | decide | omega) (by first | decide | omega)]
    have q13 : ∀ k x, k < 12 → Bx 13 w k x = Bm3 13 w k x := fun k x hk => by rw [yx k x (by first | decide | omega), v5 13 w k x (by first | decide | omega) (by first | decide | omega)]
    obtain ⟨m, g, d, _⟩ := hD u u0 u1
    refine ⟨?_, m, g, ?_, ?_⟩
    · unfold VH
      rw [b6, q4 0 (by decide), q4 1 (by decide), q4 2 (by decide), q13 10 _ (by decide), q13 8 _ (by decide), q13 9 _ (by decide), q13 11 _ (by decide)]
      exact ⟨r1, r2, r4, r5, r3, r11, r12⟩
    · rw [f6 4 (by decide), f6 5 (by decide)]
      exact VK_d d (fun c y k a b => h1 c y k (by first | decide | omega) (by first | decide | omega)) (fun i hi => y2 u m i u0 u1 d.2.1 hi) (fun k x a _ => yx k x a)
    · rw [f6 4 (by decide), f6 5 (by decide), h1 4 _ 7 (by first | decide | omega) (by first | decide | omega)]
      exact h7.2.2.2 u u0 u1
  have hNS : ∀ u, 0 ≤ u → u < V → NSq (F5 6 p 2) (btV (F5 6 p 4) (F5 6 p 5)) (B1 6 p 0 u) F5 B1 := fun u u0 u1 => by
    obtain ⟨m, g, d, _, ns⟩ := hD u u0 u1
    have e2 : F1 6 p 2 = F5 6 p 2 := (h1 6 p 2 (by first | decide | omega) (by first | decide | omega)).symm
    rw [e2, ← f6 4 (by decide), ← f6 5 (by decide)] at ns
    exact NSq_f ns (by rw [d.1.1]; have := d.1.2; omega) (fun k => h1 4 _ k (by first | decide | omega) (by first | decide | omega)) (fun _ _ => rfl) (fun i _ _ k => h1 1 _ k (by first | decide | omega) (by first | decide | omega)) (fun _ _ _ _ _ => rfl)
  have hX : XS Bx := XS_f x.1 (fun i k z a b => y3 13 i k z (by first | decide | omega)) (fun z => y3 14 0 58 z (by first | decide | omega))
  have hC : XC Bx := XC_f x.2.1 (fun i k z hk => y3 13 i k z (by first | decide | omega))
  have h77 : X77 Bx := X77_f x.2.2 (fun i k z a b => y3 13 i k z (by first | decide | omega))
  obtain ⟨S, sg, sr⟩ := SG_k PK0
  obtain ⟨F', B', z1, z2, z3, z4, z5, z6, z7, z8, z9, z10, z11⟩ := L_tail (K := Km) (n := n') (l1 := l1) (w1 := wl) (F := Fm5) (B := Bx) sg sr (fun t t0 t1 => MDr_k PK0 t0 t1 (hNS t t0 t1)) (by first | decide | omega) g6 (PK_r PK0) hX hC h77 l0 (by rw [y3 14 0 5 l1 (by first | decide | omega)]; exact h5) wb hw
  refine ⟨F', B', ?_, z2, z3, fun c i k y a b d => ?_, z5, ⟨z6, z7, z8⟩, ?_, z9, fun u u0 u1 i i0 i1 => ?_, S, sg, z11⟩
  · unfold f_M_read_35
    rw [L_good h17, zb_s, if_pos (by decide), if_neg (by decide), y1, z1]
  · rw [z4 c i k y (by first | decide | omega) b d, y3 c i k y (by first | decide | omega)]
  · exact PK_e PK0 (fun _ => Int.le_refl _) (fun _ _ => rfl) rfl (fun _ _ _ => rfl) (fun _ _ _ => rfl) (fun _ _ _ _ _ _ => rfl) (fun _ _ _ _ _ _ => rfl) (fun k a b => z2 13 w k (by first | decide | omega) (by first | decide | omega) (by first | decide | omega)) (fun k y hk => z4 13 w k y (by first | decide | omega) (by first | decide | omega) (by first | decide | omega))
  · have gs := (hNS u u0 u1).2 i i0 (by rw [(cD_s rfl).1]; exact i1)
    obtain ⟨s1, s2, s3, s4, s5, s6⟩ := z10 u u0 u1 i i0 i1
    obtain ⟨g1, g2, g3, g4, g5, g6⟩ := gs
    exact ⟨by rw [g1, s1], by rw [g2, s2], by rw [g3, s3], by rw [g4, s4], by rw [g5, s5], by rw [g6, s6], by rw [g2]; exact acN_0, fun ip => ((hNS u u0 u1).1 i i0 i1).2 ip⟩
/-- what a call of read comes to, both sides -/
theorem P_rd29 {K : zK} {Km : Nat} {p p0 p1 w w0 w1 l1 : Int} {F : zF} {B : zB} {Fm : zF} {Bm : zB} (h : IR K Km p p0 p1 w w0 w1 F B Fm Bm) (hT : IT F B Fm Bm) (hp : 0 ≤ p) (l0 : 0 ≤ l1 ∧ l1 < 2) : ∃ r K' F3 B3 Fm3 Bm3, PhF K K' p w F B Fm Bm F3 B3 Fm3 Bm3 ∧ (F3 0 0 1 = 0 ∧ Fm3 14 0 3 = 0) ∧ (F3 6 p 10 = 0 ∧ F3 6 p 11 = 0 ∧ F3 6 p 13 = 0 ∧ (0 ≤ F 6 p 8 → F3 2 (F 6 p 8) 0 = 0)) ∧ ((¬ r = 0 ∧ f_S_read_29 K 0 l1 F B = some (r, F3, B3, K') ∧ f_M_read Km l1 Fm Bm = some (r, Fm3, Bm3)) ∨ (r = 0 ∧ f_S_read_29 K 0 l1 F B = some (0, zup3 F3 12 0 7 (B3 12 0 3 l1), zup4 B3 12 0 3 l1 p, K') ∧ ∃ V Fm' Bm', f_M_read Km l1 Fm Bm = some (0, Fm', Bm') ∧ RdK K' V p w (Bm 14 0 5 l1) l1 F3 B3 Fm3 Bm3 Fm' Bm')) := by
  have h' := h
  obtain ⟨⟨a1, a2, a3⟩, ⟨o0, o2, o4, o5, o6, o11⟩, ⟨d1, d2, d3, d4, d5, d6, d7⟩, ⟨n1, n2, n3, n4, n5, n6⟩, hW, hQ, hG, hF, s0, s1⟩ := h
  obtain ⟨t1, t2, t3, t4, t5⟩ := hT
  have hpK : 0 ≤ p ∧ p < K.2 6 := ⟨hp, hQ.1.1⟩
  obtain ⟨F2, c1, c2, ⟨q1, q2, q3, q4, q5, q6, q10, q11, q13⟩, c4⟩ := C_pclr (B := B) hpK (hF p hp hpK.2).1
  have f12 : ∀ k, F2 12 0 k = F 12 0 k := fun k => c2 12 0 k (by first | decide | omega) (by first | decide | omega)
  have key := P_parse (K := K) (Km := Km) (n := F 0 0 1) (p := p) (w := w) (t := B 0 0 0) (F := F2) (B := B) (Fm := Fm) (Bm := Bm) a1 (by first | decide | omega) (by first | decide | omega) a3.2.2.1 (by first | decide | omega) (by rw [c2 3 0 11 (by first | decide | omega) (by first | decide | omega)]; exact o11) (c2 0 0 1 (by first | decide | omega) (by first | decide | omega)) t2 t3 t4 rfl d2 t1.symm t5 d4 d1 hpK hW.1 n4 q1 q2 q3 q4 q5 q6
  obtain ⟨r, F3, B3, K3, r', Fm3, Bm3, e1, e2, hPF, hGS, res⟩ := key
  have hph := PhF_1 (F4 := F3) c2 hPF hGS d3 (fun _ _ _ _ => rfl)
  have kk := hph.1.2.2.1
  have f3 : ∀ k, F3 12 0 k = F 12 0 k := fun k => by rw [hPF.2.1 12 0 k (by first | decide | omega) (by first | decide | omega) (by first | decide | omega) (by first | decide | omega) (by first | decide | omega), f12]
  have f36 : ∀ k, ¬ (1 ≤ k ∧ k ≤ 6) → F3 6 p k = F2 6 p k := fun k hk => hPF.2.1 6 p k hpK.2 (by first | decide | omega) (by first | decide | omega) (by first | decide | omega) (by first | decide | omega)
  have f32 : ∀ y k, y < K.2 2 → F3 2 y k = F2 2 y k := fun y k hy => hPF.2.1 2 y k hy (by first | decide | omega) (by first | decide | omega) (by first | decide | omega) (by first | decide | omega)
  have h8 := (hF p hp hpK.2).1
  -- the class up to its loop over voices
  have cE : f_S_read_29 K 0 l1 F B = f_S_read_54 K3.1 K3 0 r 0 l1 F3 B3 := by
    unfold f_S_read_29
    rw [if_pos ⟨Int.le_refl _, a3.2.2.2.2.2.2.2.2.2⟩, n1, if_pos hpK, c1, zbN_s, f12, o4, if_pos ⟨Int.le_refl _, a3.2.2.1⟩, f12, o0, if_pos (show 0 ≤ (0 : Int) ∧ 0 < K.2 0 by omega), f12, n1, if_pos hpK, e1]
    rfl
  -- the reference up to the judgement of its text
  have mE : f_M_read Km l1 Fm Bm = zbind (f_M_good Km Fm3 Bm3) (fun r7 F7 B7 => if r32 r7 then (if r7 = 0 then f_M_read_35 Km l1 F7 B7 else zbind (f_M_through Km F7 B7) (fun r10 F10 B10 => f_M_read_35 Km l1 F10 B10)) else none) := by
    unfold f_M_read
    rw [if_pos (by unfold r32; omega), if_neg (by first | decide | omega), if_pos (by first | decide | omega)]
    rw [zb_as (t := fun F B => f_M_text Km (zup3 F 14 0 3 0) B), e2, zb_s]
  have m3 : Fm3 14 0 3 = 0 ∨ True := Or.inr trivial
  have k12 : 0 < K3.2 12 := by rw [kk 12 (by decide)]; omega
  have k0 : 0 < K3.2 0 := by rw [kk 0 (by decide)]; omega
  have k11 : 0 < K3.2 11 := by rw [kk 11 (by decide)]; omega
  have k6 : p < K3.2 6 := by rw [kk 6 (by decide)]; exact hpK.2
  have kf : K3.1 = K.1 := hph.1.1
  rcases res with ⟨rfl, N, L, V, V1, hI⟩ | ⟨⟨er, b0, b1⟩, bd⟩
  · -- the text parses
    have h17 : Fm3 14 0 17 = 0 := hI.1.2.1.2.2.2.1
    obtain ⟨fl, F1, F5, B1, Fm1, Fm5, Bm1, x1, x2, x3, x4, x5, x6, x7, x8, x9, x10⟩ := P_thr (l1 := l1) hI V1 (by first | decide | omega) k0 k11 k12 (by rw [f3]; exact o0) (by rw [f3]; exact n1) (by rw [f3]; exact o5) (by rw [f3]; exact o4) h17 (fun u u0 u1 s s0 s1 => hph.2.2.2.2.2.2.2.2 _ s (hI.2.2.2.2.2 u u0 u1).1.1.1 (hI.2.2.2.2.2 u u0 u1).1.1.2 s0 s1)
    have hph2 := PhF_2 hpK hph x3 x8 x4 x6 (by first | decide | omega)
    have g6 : ∀ k, ¬ k = 7 → F5 6 p k = F3 6 p k := fun k hk => by rw [x4 6 p k (by first | decide | omega) (by first | decide | omega), x3.1 6 p k (by first | decide | omega) (by first | decide | omega) (by first | decide | omega)]
    have g2 : ∀ y k, F5 2 y k = F3 2 y k := fun y k => by rw [x4 2 y k (by first | decide | omega) (by first | decide | omega), x3.1 2 y k (by first | decide | omega) (by first | decide | omega) (by first | decide | omega)]
    have fl4 : F5 6 p 10 = 0 ∧ F5 6 p 11 = 0 ∧ F5 6 p 13 = 0 ∧ (0 ≤ F 6 p 8 → F5 2 (F 6 p 8) 0 = 0) := by
      rw [g6 10 (by decide), g6 11 (by decide), g6 13 (by decide), f36 10 (by decide), f36 11 (by decide), f36 13 (by decide)]
      exact ⟨q10, q11, q13, fun z => by rw [g2, f32 _ _ h8]; exact c4 z⟩
    have e17 : ∀ (x : zO), zbind (f_M_good Km Fm3 Bm3) (fun r7 F7 B7 => if r32 r7 then (if r7 = 0 then f_M_read_35 Km l1 F7 B7 else zbind (f_M_through Km F7 B7) (fun r10 F10 B10 => f_M_read_35 Km l1 F10 B10)) else none) = f_M_read_35 Km l1 Fm5 Bm1 := fun _ => by
      rw [L_good h17, zb_s, if_pos (by decide), if_neg (by decide), x2, zb_s]
    have fN := hph2.2.2.2.2.2.1
    have m3' : Fm5 14 0 3 = 0 := by
      rw [x6 14 0 3 (by first | decide | omega), x3.2.2.2.1 14 0 3 (by first | decide | omega) (by first | decide | omega), zup3_v, if_neg (by first | decide | omega)]
      exact hPF.2.2.2.2.2.2.2.2.2.1
    have f57 : F5 12 0 7 = p := by rw [x4 12 0 7 (by first | decide | omega) (by first | decide | omega), x3.1 12 0 7 (by first | decide | omega) (by first | decide | omega) (by first | decide | omega), f3]; exact n1
    have b12 : B1 12 0 3 l1 = B 12 0 3 l1 := by rw [x3.2.1 12 0 3 l1 (by first | decide | omega) (by first | decide | omega) (by first | decide | omega)]; exact hPF.2.2.1 12 0 3 l1 (by first | decide | omega) (by first | decide | omega) (by first | decide | omega) (by first | decide | omega)
    have pl : B 12 0 3 l1 < K.2 6 := by
      have : l1 = 0 ∨ l1 = 1 := by omega
      rcases this with rfl | rfl
      · rw [n2]; exact hQ.1.2.1
      · rw [n3]; exact hQ.1.2.2
    have wl : (0 ≤ Bm 14 0 5 l1 ∧ Bm 14 0 5 l1 < 3) ∧ ¬ Bm 14 0 5 l1 = w := by
      have : l1 = 0 ∨ l1 = 1 := by omega
      unfold IW at hW
      rcases this with rfl | rfl
      · rw [n5]; omega
      · rw [n6]; omega
    rcases x10 with ⟨rfl, z17, z7, zS⟩ | ⟨bd, e, b0, b1⟩
    · have w13 : ∀ i k x, 36 ≤ k → Bm1 13 i k x = Bm 13 i k x := fun i k x hk => fN 13 i k x (by first | decide | omega) (by first | decide | omega)
      obtain ⟨Fm', Bm', y1, y2⟩ := P_rdOK hI V1 x3 x4 x6 z17 z7 zS ⟨XS_f d5 (fun i k x a b => w13 i k x a) (fun x => fN 14 0 58 x (by first | decide | omega) (by first | decide | omega)), XC_f d6 (fun i k x hk => w13 i k x (by first | decide | omega)), X77_f d7 (fun i k x a b => w13 i k x (by first | decide | omega))⟩ l0 (fN 14 0 5 l1 (by first | decide | omega) (by first | decide | omega)) wl.1 wl.2
      refine ⟨0, K3, F5, B1, Fm5, Bm1, hph2, ⟨x5.1, m3'⟩, fl4, Or.inr ⟨rfl, ?_, V, Fm', Bm', by rw [mE, e17 none, y1], y2⟩⟩
      rw [cE, x1]
      unfold f_S_read_140
      rw [if_pos (by decide), if_pos rfl, if_pos ⟨Int.le_refl _, k12⟩, if_pos l0, f57, if_pos ⟨hp, k6⟩, b12, if_pos (by rw [kk 6 (by decide)]; exact pl)]
    · have fz : ¬ fl = 0 := by unfold bad at bd; omega
      refine ⟨fl, K3, F5, B1, Fm5, Bm1, hph2, ⟨x5.1, m3'⟩, fl4, Or.inl ⟨fz, ?_, ?_⟩⟩
      · rw [cE, x1]
        unfold f_S_read_140
        rw [if_pos x9, if_neg fz]
      · rw [mE, e17 none]
        unfold f_M_read_35
        rw [L_goodB bd, zb_s, if_pos (by decide), if_pos rfl, ← e]
  · -- the text does not parse
    have rz : ¬ r = 0 := by unfold bad at bd; omega
    have rr : r32 r := by unfold bad at bd; unfold r32; omega
    have v1 := hPF.2.2.2.2.2.2.2.2.2.2
    have hph2 := PhF_1 (F4 := zup3 (zup3 F3 0 0 1 0) 0 0 2 0) c2 hPF hGS d3 (fun c y k hh => by rw [zup3_v, if_neg (by first | decide | omega), zup3_v, if_neg (by first | decide | omega)])
    have z6 : ∀ c y k, ¬ (c = 0 ∧ y = 0) → (zup3 (zup3 F3 0 0 1 0) 0 0 2 0) c y k = F3 c y k := fun c y k hh => by rw [zup3_v, if_neg (by first | decide | omega), zup3_v, if_neg (by first | decide | omega)]
    refine ⟨r, K3, _, B3, Fm3, Bm3, hph2, ⟨by rw [zup3_v, if_neg (by first | decide | omega), zup3_v, if_pos (by first | decide | omega)], hPF.2.2.2.2.2.2.2.2.2.1⟩, ⟨by rw [z6 6 p 10 (by first | decide | omega), f36 10 (by decide)]; exact q10, by rw [z6 6 p 11 (by first | decide | omega), f36 11 (by decide)]; exact q11, by rw [z6 6 p 13 (by first | decide | omega), f36 13 (by decide)]; exact q13, fun z => by rw [z6 2 _ 0 (by first | decide | omega), f32 _ _ h8]; exact c4 z⟩, Or.inl ⟨rz, ?_, ?_⟩⟩
    · rw [cE]
      exact C_rdX (by first | decide | omega) k0 k12 ⟨hp, k6⟩ (by rw [f3]; exact n1) (by rw [f3]; exact o0) (by unfold r32; omega) rr rz
    · rw [mE, L_goodB bd, zb_s, if_pos (by decide), if_pos rfl]
      unfold f_M_read_35
      rw [L_goodB bd, zb_s, if_pos (by decide), if_pos rfl, ← er]
end
end
