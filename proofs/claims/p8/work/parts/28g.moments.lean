section
/-! ===== the moments of a read piece, reference ===== -/
def MP (w : Int) (B : zB) (t : Int) : Prop := ∃ q : Int, (0 ≤ q ∧ q ≤ 1000000000000) ∧ B 13 w 73 t = nu q ∧ B 13 w 74 t = de q
def mU (w t q : Int) (B : zB) : zB := zup4 (zup4 B 13 w 73 t (nu q)) 13 w 74 t (de q)
theorem mU_n {w j p : Int} {B : zB} {c k : Nat} {i x : Int} (h : ¬ (c = 13 ∧ i = w ∧ (k = 73 ∨ k = 74) ∧ x = j)) : mU w j p B c i k x = B c i k x := by
  unfold mU
  rw [zup4_v, if_neg (by first | decide | omega), zup4_v, if_neg (by first | decide | omega)]
theorem mU_p {w t q : Int} {B : zB} (q0 : 0 ≤ q) (q1 : q ≤ 1000000000000) : MP w (mU w t q B) t := by
  refine ⟨q, ⟨q0, q1⟩, ?_, ?_⟩
  · unfold mU; rw [zup4_v, if_neg (by first | decide | omega), zup4_v, if_pos (by first | decide | omega)]
  · unfold mU; rw [zup4_v, if_pos (by first | decide | omega)]
theorem MP_n {w j p x : Int} {B : zB} (h : MP w B x) (n : ¬ x = j) : MP w (mU w j p B) x := by
  unfold MP
  rw [mU_n (by first | decide | omega), mU_n (by first | decide | omega)]
  exact h
/-- what the moments change -/
def MZ (w : Int) (B B' : zB) : Prop := ∀ c i k x, ¬ (c = 13 ∧ i = w ∧ 73 ≤ k ∧ k ≤ 75) → B' c i k x = B c i k x
def MF (w : Int) (F F' : zF) : Prop := ∀ c i k, ¬ (c = 13 ∧ i = w ∧ k = 72) → F' c i k = F c i k
theorem RDW_m {V w : Int} {F F' : zF} {B B' : zB} (h : RDW V w F B) (f : MF w F F') (z : MZ w B B') : RDW V w F' B' := RDW_f h (fun k _ _ => f 13 w k (by first | decide | omega)) (fun k x _ h' => z 13 w k x (by first | decide | omega))
/-- moved up, and put in -/
theorem s_mom83 {K : Nat} {w c t p : Int} {F : zF} {B0 : zB} (w0 : 0 ≤ w ∧ w < 3) (h72 : F 13 w 72 = c) (c1 : c < 800) (t0 : 0 ≤ t) (p0 : 0 ≤ p) (p1 : p ≤ 1000000000000) : ∀ (n : Nat) (l : Int) (B : zB), MZ w B0 B → t ≤ l → l ≤ c → (∀ x, 0 ≤ x → x < l → MP w B x) → (∀ x, l < x → x ≤ c → MP w B x) → l - t < n → ∃ B', f_M_moment_1_83 K n l t w (nu p) (de p) F B = some (0, zup3 F 13 w 72 (c + 1), B') ∧ MZ w B0 B' ∧ ∀ x, 0 ≤ x → x ≤ c → MP w B' x := by
  intro n
  induction n with
  | zero => intro l B _ _ _ _ _ hn; exfalso; omega
  | succ n ih =>
    intro l B hz tl lc m1 m2 hn
    rw [f_M_moment_1_83, if_pos (by unfold r32; omega), if_pos (by unfold r32; omega)]
    by_cases a : l ≤ t
    · rw [if_pos a, if_pos w0, if_pos (by first | decide | omega), h72]
      refine ⟨mU w t p B, rfl, fun c' i k x nn => by rw [mU_n (by first | decide | omega)]; exact hz c' i k x nn, fun x x0 x1 => ?_⟩
      by_cases e : x = t
      · rw [e]; exact mU_p p0 p1
      · by_cases e' : x < l
        · exact MP_n (m1 x x0 e') e
        · exact MP_n (m2 x (by first | decide | omega) x1) e
    · rw [if_neg a, if_pos w0, if_pos (by first | decide | omega), if_pos (by first | decide | omega)]
      obtain ⟨q, ⟨q0, q1⟩, k1, k2⟩ := m1 (l - 1) (by first | decide | omega) (by first | decide | omega)
      have e1 : (zup4 B 13 w 73 l (nu q)) 13 w 74 (l - 1) = de q := by rw [zup4_v, if_neg (by first | decide | omega)]; exact k2
      rw [k1, e1]
      exact ih (l - 1) (mU w l q B) (fun c' i k x nn => by rw [mU_n (by first | decide | omega)]; exact hz c' i k x nn) (by first | decide | omega) (by first | decide | omega) (fun x x0 x1 => MP_n (m1 x x0 (by first | decide | omega)) (by first | decide | omega)) (fun x x0 x1 => by
        by_cases e : x = l
        · rw [e]; exact mU_p q0 q1
        · exact MP_n (m2 x (by first | decide | omega) x1) e) (by first | decide | omega)
theorem s_mom1 {K : Nat} {w c p : Int} {F : zF} {B : zB} (hK : 812851200 < K) (w0 : 0 ≤ w ∧ w < 3) (h72 : F 13 w 72 = c) (c0 : 0 ≤ c) (c1 : c < 800) (p0 : 0 ≤ p) (p1 : p ≤ 1000000000000) (hM : ∀ x, 0 ≤ x → x < c → MP w B x) : ∃ F' B' c', f_M_moment_1 K w (nu p) (de p) F B = some (0, F', B') ∧ MF w F F' ∧ MZ w B B' ∧ F' 13 w 72 = c' ∧ 0 ≤ c' ∧ c' ≤ c + 1 ∧ ∀ x, 0 ≤ x → x < c' → MP w B' x := by
  have np := nd_r p0 p1
  have h77 : ∀ t, 0 ≤ t → t ≤ c → ∃ F' B' c', f_M_moment_1_77 K t w (nu p) (de p) F B = some (0, F', B') ∧ MF w F F' ∧ MZ w B B' ∧ F' 13 w 72 = c' ∧ 0 ≤ c' ∧ c' ≤ c + 1 ∧ ∀ x, 0 ≤ x → x < c' → MP w B' x := fun t t0 t1 => by
    unfold f_M_moment_1_77
    rw [if_pos w0, h72]
    obtain ⟨B', e, z, m⟩ := s_mom83 (K := K) (F := F) (B0 := B) w0 h72 c1 t0 p0 p1 K c B (fun _ _ _ _ _ => rfl) t1 (Int.le_refl _) hM (fun x a b => (by first | decide | omega)) (by first | decide | omega)
    exact ⟨_, B', c + 1, e, fun c' i k nn => by rw [zup3_v, if_neg nn], z, by rw [zup3_v, if_pos (by first | decide | omega)], (by first | decide | omega), Int.le_refl _, fun x x0 x1 => m x x0 (by first | decide | omega)⟩
  have h43 : ∀ t, 0 ≤ t → t ≤ c → ∃ F' B' c', f_M_moment_1_43 K t w (nu p) (de p) F B = some (0, F', B') ∧ MF w F F' ∧ MZ w B B' ∧ F' 13 w 72 = c' ∧ 0 ≤ c' ∧ c' ≤ c + 1 ∧ ∀ x, 0 ≤ x → x < c' → MP w B' x := fun t t0 t1 => by
    unfold f_M_moment_1_43
    rw [if_pos (by unfold r32; omega)]
    by_cases a : t ≤ 0
    · rw [if_pos a]; exact h77 t t0 t1
    · rw [if_neg a, if_pos w0, if_pos (by first | decide | omega)]
      obtain ⟨q, ⟨q0, q1⟩, k1, k2⟩ := hM (t - 1) (by first | decide | omega) (by first | decide | omega)
      have nq := nd_r q0 q1
      rw [k1, k2, if_pos (by unfold r64; omega), if_pos (by unfold r64; omega)]
      by_cases y : zcmp (nu q) (nu p) = 0
      · rw [if_pos y, if_pos (by unfold r64; omega), if_pos (by unfold r64; omega)]
        by_cases z : zcmp (de q) (de p) = 0
        · rw [if_pos z]
          exact ⟨F, B, c, rfl, fun _ _ _ _ => rfl, fun _ _ _ _ _ => rfl, h72, c0, (by first | decide | omega), hM⟩
        · rw [if_neg z]; exact h77 t t0 t1
      · rw [if_neg y]; exact h77 t t0 t1
  have h6 : ∀ (n : Nat) (t : Int), 0 ≤ t → t ≤ c → t < n → ∃ F' B' c', f_M_moment_1_6 K n t w (nu p) (de p) F B = some (0, F', B') ∧ MF w F F' ∧ MZ w B B' ∧ F' 13 w 72 = c' ∧ 0 ≤ c' ∧ c' ≤ c + 1 ∧ ∀ x, 0 ≤ x → x < c' → MP w B' x := by
    intro n
    induction n with
    | zero => intro t _ _ hn; exfalso; omega
    | succ n ih =>
      intro t t0 t1 hn
      rw [f_M_moment_1_6, if_pos (by unfold r32; omega)]
      by_cases a : t ≤ 0
      · rw [if_pos a]; exact h43 t t0 t1
      · rw [if_neg a, if_pos w0, if_pos (by first | decide | omega)]
        obtain ⟨q, ⟨q0, q1⟩, k1, k2⟩ := hM (t - 1) (by first | decide | omega) (by first | decide | omega)
        rw [k1, k2, L_cmpR hK (FR_r q0) (FR_r p0) (by first | decide | omega) (by first | decide | omega), zb_s, if_pos cmp3.1]
        by_cases y : (if q < p then (-1 : Int) else if q = p then 0 else 1) ≤ 0
        · rw [if_pos y]; exact h43 t t0 t1
        · rw [if_neg y]; exact ih (t - 1) (by first | decide | omega) (by first | decide | omega) (by first | decide | omega)
  unfold f_M_moment_1
  rw [if_pos w0, h72]
  exact h6 K c c0 (Int.le_refl _) (by first | decide | omega)
/-- moments gathered: 200 for each voice at most -/
def MS (w c : Int) (F0 F : zF) (B0 B : zB) : Prop := MF w F0 F ∧ MZ w B0 B ∧ (0 ≤ F 13 w 72 ∧ F 13 w 72 ≤ c) ∧ ∀ x, 0 ≤ x → x < F 13 w 72 → MP w B x
theorem s_mts17 {K : Nat} {V w u : Int} {F0 : zF} {B0 : zB} {rec : Int → Int → zF → zB → zO} {Q : Int → zF → zB → Prop} (hK : 812851200 < K) (hR0 : RDW V w F0 B0) (u0 : 0 ≤ u) (u1 : u < V) (hrec : ∀ F B, MS w (200 * (u + 1)) F0 F B0 B → zS (rec (u + 1) w F B) Q) : ∀ (n : Nat) (i : Int) (F : zF) (B : zB), MS w (200 * u + i) F0 F B0 B → 0 ≤ i → i ≤ B0 13 w 12 u → B0 13 w 12 u - i < n → zS (f_M_moments_17 rec K n i u w F B) Q := by
  have b0 := rd_0 hR0
  have bv := rd_v hR0 u0 u1
  intro n
  induction n with
  | zero => intro i F B _ _ _ hn; exfalso; omega
  | succ n ih =>
    intro i F B h i0 i1 hn
    have h' := h
    obtain ⟨f, z, c, m⟩ := h
    have e12 := z 13 w 12 u (by first | decide | omega)
    have e14 := z 13 w 14 (1000 * u + i) (by first | decide | omega)
    have e15 := z 13 w 15 (1000 * u + i) (by first | decide | omega)
    rw [f_M_moments_17]
    refine zS_g b0.1 ?_
    refine zS_g (by first | decide | omega) ?_
    refine zS_g (by unfold r32; omega) ?_
    refine zS_g (by unfold r32; omega) ?_
    refine zS_i (fun a => ?_) (fun a => ?_)
    · exact hrec F B ⟨f, z, (by first | decide | omega), m⟩
    · refine zS_g (by first | decide | omega) ?_
      obtain ⟨p, g, ⟨p0, g0, pg⟩, k1, k2, _, _⟩ := rd_f (x := 1000 * u + i) hR0 u0 u1 (by first | decide | omega) (by first | decide | omega)
      obtain ⟨F', B', c', x1, x2, x3, x4, x5, x6, x7⟩ := s_mom1 (K := K) (F := F) (B := B) hK b0.1 rfl c.1 (by first | decide | omega) p0 (by first | decide | omega) m
      rw [e14, e15, k1, k2, x1, zb_s]
      exact ih (i + 1) F' B' ⟨fun c i k nn => by rw [x2 c i k nn, f c i k nn], fun c i k x nn => by rw [x3 c i k x nn, z c i k x nn], (by first | decide | omega), fun x y0 y1 => x7 x y0 (by first | decide | omega)⟩ (by first | decide | omega) (by first | decide | omega) (by first | decide | omega)
/-- which event sounds at each moment -/
def M75 (V w u t : Int) (F : zF) (B : zB) : Prop := (∀ x, 0 ≤ x → x < F 13 w 72 → MP w B x) ∧ ∀ u' t', 0 ≤ u' → u' < V → 0 ≤ t' → t' < F 13 w 72 → (u' < u ∨ (u' = u ∧ t' < t)) → 0 ≤ B 13 w 75 (4 * t' + u') ∧ B 13 w 75 (4 * t' + u') < B 13 w 12 u'
theorem s_mts91 {K : Nat} {V w u t : Int} {F : zF} {B : zB} {rec69 : Int → Int → zF → zB → zO} {rec : Int → Int → Int → Int → zF → zB → zO} {Q : Int → zF → zB → Prop} (hK : 812851200 < K) (hR : RDW V w F B) (u0 : 0 ≤ u) (u1 : u < V) (t0 : 0 ≤ t) (t1 : t < F 13 w 72) (t2 : F 13 w 72 ≤ 800) (hM : M75 V w u t F B) (hrec : ∀ e B', 0 ≤ e → e < B 13 w 12 u → MZ w B B' → M75 V w u (t + 1) F B' → zS (rec (t + 1) e u w F B') Q) : ∀ (n : Nat) (i : Int), 0 ≤ i → i < B 13 w 12 u → B 13 w 12 u - i < n → zS (f_M_moments_91 rec69 rec K n t i u w F B) Q := by
  have b0 := rd_0 hR
  have bv := rd_v hR u0 u1
  have h157 : ∀ i, 0 ≤ i → i < B 13 w 12 u → zS (f_M_moments_157 rec69 rec K t i u w F B) Q := fun i i0 i1 => by
    unfold f_M_moments_157
    refine zS_g b0.1 ?_
    refine zS_g (by first | decide | omega) ?_
    refine hrec i _ i0 i1 (fun c y k x nn => by rw [zup4_v, if_neg (by first | decide | omega)]) ⟨fun x x0 x1 => ?_, fun u' t' a0 a1 a2 a3 a4 => ?_⟩
    · unfold MP
      rw [zup4_v, if_neg (by first | decide | omega), zup4_v, if_neg (by first | decide | omega)]
      exact hM.1 x x0 x1
    · rw [show (zup4 B 13 w 75 (4 * t + u) i) 13 w 12 u' = B 13 w 12 u' by rw [zup4_v, if_neg (by first | decide | omega)], zup4_v]
      by_cases e : 4 * t' + u' = 4 * t + u
      · have : u' = u := by omega
        subst this
        rw [if_pos (by first | decide | omega)]
        exact ⟨i0, i1⟩
      · rw [if_neg (by first | decide | omega)]
        exact hM.2 u' t' a0 a1 a2 a3 (by first | decide | omega)
  intro n
  induction n with
  | zero => intro i _ _ hn; exfalso; omega
  | succ n ih =>
    intro i i0 i1 hn
    rw [f_M_moments_91]
    refine zS_g b0.1 ?_
    refine zS_g (by first | decide | omega) ?_
    refine zS_g (by unfold r32; omega) ?_
    refine zS_g (by unfold r32; omega) ?_
    refine zS_i (fun a => ?_) (fun a => ?_)
    · exact h157 i i0 i1
    · refine zS_g (by first | decide | omega) ?_
      refine zS_g (by first | decide | omega) ?_
      obtain ⟨p, g, ⟨p0, g0, pg⟩, k1, k2, _, _⟩ := rd_f (x := 1000 * u + i + 1) hR u0 u1 (by first | decide | omega) (by first | decide | omega)
      obtain ⟨q, ⟨q0, q1⟩, m1, m2⟩ := hM.1 t t0 t1
      rw [k1, k2, m1, m2, L_cmpR hK (FR_r p0) (FR_r q0) (by first | decide | omega) (by first | decide | omega), zb_s]
      refine zS_g cmp3.1 ?_
      refine zS_i (fun a => ?_) (fun a => ?_)
      · exact h157 i i0 i1
      · exact ih (i + 1) (by first | decide | omega) (by first | decide | omega) (by first | decide | omega)
theorem s_mts82 {K : Nat} {V w u : Int} {F : zF} {B0 : zB} {rec : Int → Int → zF → zB → zO} {Q : Int → zF → zB → Prop} (hK : 812851200 < K) (hR0 : RDW V w F B0) (u0 : 0 ≤ u) (u1 : u < V) (t2 : 0 ≤ F 13 w 72 ∧ F 13 w 72 ≤ 800) (hrec : ∀ B', MZ w B0 B' → M75 V w (u + 1) 0 F B' → zS (rec (u + 1) w F B') Q) : ∀ (n : Nat) (t i : Int) (B : zB), MZ w B0 B → M75 V w u t F B → 0 ≤ t → t ≤ F 13 w 72 → 0 ≤ i → i < B0 13 w 12 u → F 13 w 72 - t < n → zS (f_M_moments_82 rec K n t i u w F B) Q := by
  have b0 := rd_0 hR0
  have bv := rd_v hR0 u0 u1
  intro n
  induction n with
  | zero => intro t i B _ _ _ _ _ _ hn; exfalso; omega
  | succ n ih =>
    intro t i B z hM t0 t1 i0 i1 hn
    rw [f_M_moments_82]
    refine zS_g b0.1 ?_
    refine zS_g (by unfold r32; omega) ?_
    refine zS_g (by unfold r32; omega) ?_
    have e12 := z 13 w 12 u (by first | decide | omega)
    refine zS_i (fun a => ?_) (fun a => ?_)
    · exact hrec B z ⟨hM.1, fun u' t' a0 a1 a2 a3 a4 => hM.2 u' t' a0 a1 a2 a3 (by first | decide | omega)⟩
    · refine s_mts91 hK (RDW_f hR0 (fun _ _ _ => rfl) (fun k x _ h' => z 13 w k x (by first | decide | omega))) u0 u1 t0 (by first | decide | omega) t2.2 hM (fun e B' e0 e1 z' m' => ih (t + 1) e B' (fun c i k x nn => by rw [z' c i k x nn, z c i k x nn]) m' (by first | decide | omega) (by first | decide | omega) e0 (by first | decide | omega) (by first | decide | omega)) K i i0 (by first | decide | omega) (by first | decide | omega)
theorem s_mts69 {K : Nat} {V w : Int} {F : zF} {B0 : zB} {Q : Int → zF → zB → Prop} (hK : 812851200 < K) (hR0 : RDW V w F B0) (t2 : 0 ≤ F 13 w 72 ∧ F 13 w 72 ≤ 800) (hQ : ∀ B', MZ w B0 B' → M75 V w V 0 F B' → Q 0 F B') : ∀ (n : Nat) (u : Int) (B : zB), MZ w B0 B → M75 V w u 0 F B → 0 ≤ u → u ≤ V → V - u < n → zS (f_M_moments_69 K n u w F B) Q := by
  have b0 := rd_0 hR0
  intro n
  induction n with
  | zero => intro u B _ _ _ _ hn; exfalso; omega
  | succ n ih =>
    intro u B z hM u0 u1 hn
    rw [f_M_moments_69]
    refine zS_g b0.1 ?_
    refine zS_g (by unfold r32; omega) ?_
    refine zS_g (by unfold r32; omega) ?_
    refine zS_i (fun a => ?_) (fun a => ?_)
    · obtain rfl : u = V := by omega
      exact zS_s (hQ B z hM)
    · have bv := rd_v hR0 u0 (show u < V by omega)
      have e12 := z 13 w 12 u (by first | decide | omega)
      exact s_mts82 hK (RDW_f hR0 (fun _ _ _ => rfl) (fun k x _ h' => z 13 w k x (by first | decide | omega))) u0 (by first | decide | omega) t2 (fun B' z' m' => ih (u + 1) B' (fun c i k x nn => by rw [z' c i k x nn, z c i k x nn]) m' (by first | decide | omega) (by first | decide | omega) (by first | decide | omega)) K 0 0 B (fun _ _ _ _ _ => rfl) hM (by decide) t2.1 (by decide) (by first | decide | omega) (by first | decide | omega)
theorem s_mts7 {K : Nat} {V w : Int} {F0 : zF} {B0 : zB} (hK : 812851200 < K) (hR0 : RDW V w F0 B0) : ∀ (n : Nat) (u : Int) (F : zF) (B : zB), MS w (200 * u) F0 F B0 B → 0 ≤ u → u ≤ V → V - u < n → zS (f_M_moments_7 K n u w F B) (fun _ F' B' => MF w F0 F' ∧ MZ w B0 B' ∧ (0 ≤ F' 13 w 72 ∧ F' 13 w 72 ≤ 800) ∧ M75 V w V 0 F' B') := by
  have b0 := rd_0 hR0
  intro n
  induction n with
  | zero => intro u F B _ _ _ hn; exfalso; omega
  | succ n ih =>
    intro u F B h u0 u1 hn
    have h' := h
    obtain ⟨f, z, c, m⟩ := h
    have e1 := f 13 w 1 (by first | decide | omega)
    rw [f_M_moments_7]
    refine zS_g b0.1 ?_
    refine zS_g (by unfold r32; omega) ?_
    refine zS_g (by unfold r32; omega) ?_
    refine zS_i (fun a => ?_) (fun a => ?_)
    · exact s_mts69 hK (RDW_m hR0 f z) (by first | decide | omega) (fun B' z' m' => ⟨f, fun c i k x nn => by rw [z' c i k x nn, z c i k x nn], (by first | decide | omega), m'⟩) K 0 B (fun _ _ _ _ _ => rfl) ⟨m, fun u' t' a0 a1 a2 a3 a4 => (by first | decide | omega)⟩ (by decide) (by first | decide | omega) (by first | decide | omega)
    · have bv := rd_v hR0 u0 (show u < V by omega)
      exact s_mts17 hK hR0 u0 (by first | decide | omega) (fun F B h => ih (u + 1) F B h (by first | decide | omega) (by first | decide | omega) (by first | decide | omega)) K 0 F B ⟨f, z, (by first | decide | omega), m⟩ (by decide) (by first | decide | omega) (by first | decide | omega)
theorem s_moments {K : Nat} {V w : Int} {F : zF} {B : zB} (hK : 812851200 < K) (hR : RDW V w F B) : zS (f_M_moments K w F B) (fun _ F' B' => MF w F F' ∧ MZ w B B' ∧ (0 ≤ F' 13 w 72 ∧ F' 13 w 72 ≤ 800) ∧ M75 V w V 0 F' B') := by
  have b0 := rd_0 hR
  unfold f_M_moments
  refine zS_g b0.1 ?_
  have e : (zup3 F 13 w 72 0) 13 w 72 = 0 := by rw [zup3_v, if_pos (by first | decide | omega)]
  have f : MF w F (zup3 F 13 w 72 0) := fun c i k nn => by rw [zup3_v, if_neg nn]
  exact s_mts7 hK hR K 0 _ B ⟨f, fun _ _ _ _ _ => rfl, (by first | decide | omega), fun x x0 x1 => (by first | decide | omega)⟩ (by decide) (by first | decide | omega) (by first | decide | omega)
end
