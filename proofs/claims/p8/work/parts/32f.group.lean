section
/-! ===== sounds that begin at one place ===== -/
def gplF (g D t : Int) : Int := (2 * t * g + 4 * D) / (8 * D)
/-- what is known of the sounds of an opened file -/
def DTq (g D N : Int) (bg en tn tk : Int → Int) : Prop := (g = 4 ∨ g = 8 ∨ g = 16 ∨ g = 32) ∧ (1 ≤ D ∧ D ≤ 960) ∧ (1 ≤ N ∧ N ≤ 400) ∧ (∀ i, 0 ≤ i → i < N → (0 ≤ tk i ∧ tk i ≤ 7) ∧ (0 ≤ tn i ∧ tn i < 128) ∧ (0 ≤ bg i ∧ bg i ≤ 402921619456) ∧ (0 ≤ en i ∧ en i ≤ 402921619456)) ∧ (∀ i, 0 ≤ i → i + 1 < N → tk i ≤ tk (i + 1) ∧ (tk i = tk (i + 1) → bg i ≤ bg (i + 1)))
theorem gpl_b {g D t : Int} (hg : g = 4 ∨ g = 8 ∨ g = 16 ∨ g = 32) (hD : 1 ≤ D ∧ D ≤ 960) (ht : 0 ≤ t ∧ t ≤ 402921619456) : 0 ≤ gplF g D t ∧ gplF g D t ≤ 30000000000000 := by
  have x0 : 0 ≤ 2 * t * g + 4 * D ∧ 2 * t * g + 4 * D ≤ 30000000000000 := by rcases hg with rfl | rfl | rfl | rfl <;> omega
  unfold gplF
  exact ⟨Int.ediv_nonneg x0.1 (by first | decide | omega), Int.le_trans (Int.ediv_le_self _ x0.1) x0.2⟩
theorem gpl_m {g D t u : Int} (hg : g = 4 ∨ g = 8 ∨ g = 16 ∨ g = 32) (hD : 1 ≤ D ∧ D ≤ 960) (h : t ≤ u) : gplF g D t ≤ gplF g D u := by
  unfold gplF
  refine Int.ediv_le_ediv (by first | decide | omega) ?_
  rcases hg with rfl | rfl | rfl | rfl <;> omega
/-- the file as the scribe has it -/
def CFq (K : zK) (o g D N : Int) (bg en tn tk : Int → Int) (F : zF) (B : zB) : Prop := (F 7 0 0 = o ∧ 0 ≤ o ∧ o < K.2 8) ∧ F 7 0 2 = g ∧ B 8 o 0 1 = D ∧ F 8 o 2 = N ∧ ∀ i, 0 ≤ i → i < N → B 8 o 220 i = tk i ∧ B 8 o 222 i = tn i ∧ B 8 o 224 i = bg i ∧ B 8 o 225 i = en i
theorem CFq_f {K : zK} {o g D N : Int} {bg en tn tk : Int → Int} {F F' : zF} {B B' : zB} (h : CFq K o g D N bg en tn tk F B) (f0 : F' 7 0 0 = F 7 0 0) (f2 : F' 7 0 2 = F 7 0 2) (f8 : F' 8 o 2 = F 8 o 2) (b : ∀ k x, B' 8 o k x = B 8 o k x) : CFq K o g D N bg en tn tk F' B' := by
  obtain ⟨h1, h2, h3, h4, h5⟩ := h
  refine ⟨by rw [f0]; exact h1, by rw [f2]; exact h2, by rw [b]; exact h3, by rw [f8]; exact h4, fun i i0 i1 => ?_⟩
  rw [b, b, b, b]; exact h5 i i0 i1
theorem C_gp {K : zK} {o g D N : Int} {bg en tn tk : Int → Int} {F : zF} {B : zB} {t : Int} (h7 : 0 < K.2 7) (dq : DTq g D N bg en tn tk) (h : CFq K o g D N bg en tn tk F B) (ht : 0 ≤ t ∧ t ≤ 402921619456) : f_Scribe_gridPlace K 0 t F B = some (gplF g D t, F, B) := by
  obtain ⟨hg, hD, _⟩ := dq
  obtain ⟨h1, h2, h3, h4, h5⟩ := h
  have zm : zmax D 1 = D := by unfold zmax; split <;> omega
  have x0 : 0 ≤ 2 * t * g + 4 * D ∧ 2 * t * g + 4 * D ≤ 30000000000000 := by rcases hg with rfl | rfl | rfl | rfl <;> omega
  unfold f_Scribe_gridPlace gplF
  rw [if_pos ⟨(by first | decide | omega), h7⟩, h1.1, if_pos h1.2, h3, zm, h2, if_pos (by unfold r32; omega), if_pos (by unfold r32; omega), if_pos (by unfold r32; omega), if_pos (lI_n0 (by first | decide | omega) (by unfold r64; omega)), zldv_e x0.1 (by first | decide | omega) (by first | decide | omega) (by first | decide | omega)]
/-- the first sound behind s, of those before z, that begins at another place than v -/
def grN (gB : Int → Int) (z v : Int) : Nat → Int → Int
  | 0, t => t
  | f + 1, t => if t < z ∧ gB t = v then grN gB z v f (t + 1) else t
def mxR (gE : Int → Int) : Nat → Int → Int → Int
  | 0, _, a => a
  | f + 1, t, a => mxR gE f (t + 1) (zmax a (gE t))
theorem grN_p {gB : Int → Int} {z v : Int} : ∀ (f : Nat) (t : Int), z - t ≤ f → t ≤ z → t ≤ grN gB z v f t ∧ grN gB z v f t ≤ z ∧ (∀ i, t ≤ i → i < grN gB z v f t → gB i = v) ∧ (grN gB z v f t < z → ¬ gB (grN gB z v f t) = v) := by
  intro f
  induction f with
  | zero =>
    intro t h1 h2
    rw [grN]
    exact ⟨(by first | decide | omega), h2, fun i a b => (by first | decide | omega), fun a => (by first | decide | omega)⟩
  | succ f ih =>
    intro t h1 h2
    rw [grN]
    by_cases c : t < z ∧ gB t = v
    · rw [if_pos c]
      obtain ⟨a1, a2, a3, a4⟩ := ih (t + 1) (by first | decide | omega) (by first | decide | omega)
      refine ⟨(by first | decide | omega), a2, fun i b1 b2 => ?_, a4⟩
      by_cases e : i = t
      · rw [e]; exact c.2
      · exact a3 i (by first | decide | omega) b2
    · rw [if_neg c]
      exact ⟨(by first | decide | omega), h2, fun i a b => (by first | decide | omega), fun a e => c ⟨a, e⟩⟩
theorem grN_i {gB : Int → Int} {z v : Int} : ∀ (f f' : Nat) (t : Int), z - t ≤ f → z - t ≤ f' → grN gB z v f t = grN gB z v f' t := by
  intro f
  induction f with
  | zero =>
    intro f' t h1 h2
    cases f' with
    | zero => rfl
    | succ f' => rw [grN, grN, if_neg (by first | decide | omega)]
  | succ f ih =>
    intro f' t h1 h2
    cases f' with
    | zero => rw [grN, grN, if_neg (by first | decide | omega)]
    | succ f' =>
      rw [grN, grN]
      by_cases c : t < z ∧ gB t = v
      · rw [if_pos c, if_pos c]; exact ih f' (t + 1) (by first | decide | omega) (by first | decide | omega)
      · rw [if_neg c, if_neg c]
theorem mxR_b {gE : Int → Int} {M : Int} : ∀ (f : Nat) (t a : Int), a ≤ M → (∀ i, t ≤ i → i < t + f → gE i ≤ M) → a ≤ mxR gE f t a ∧ mxR gE f t a ≤ M := by
  intro f
  induction f with
  | zero => intro t a h1 h2; rw [mxR]; omega
  | succ f ih =>
    intro t a h1 h2
    have e := h2 t (by first | decide | omega) (by first | decide | omega)
    have zm : a ≤ zmax a (gE t) ∧ zmax a (gE t) ≤ M := by unfold zmax; split <;> omega
    have := ih (t + 1) (zmax a (gE t)) zm.2 (fun i a b => h2 i (by first | decide | omega) (by first | decide | omega))
    rw [mxR]; omega
theorem mxR_s {gE : Int → Int} : ∀ (f : Nat) (t a : Int), mxR gE (f + 1) t a = zmax (mxR gE f t a) (gE (t + f)) := by
  intro f
  induction f with
  | zero => intro t a; rw [mxR, mxR, mxR]; simp
  | succ f ih =>
    intro t a
    rw [mxR, ih (t + 1) (zmax a (gE t)), mxR, show t + 1 + (f : Int) = t + ((f + 1 : Nat) : Int) by omega]
/-- where the group that begins with s ends, and how long it sounds -/
def nxG (gB : Int → Int) (s z : Int) : Int := grN gB z (gB s) 400 s
def toG (gB gE : Int → Int) (s z : Int) : Int := if nxG gB s z < z then zmin (mxR gE (nxG gB s z - s).toNat s (gB s + 1)) (gB (nxG gB s z)) else mxR gE (nxG gB s z - s).toNat s (gB s + 1)
theorem nxG_p {gB : Int → Int} {s z : Int} (h : s < z) (hz : z ≤ 400) (s0 : 0 ≤ s) : s < nxG gB s z ∧ nxG gB s z ≤ z ∧ (∀ i, s ≤ i → i < nxG gB s z → gB i = gB s) ∧ (nxG gB s z < z → ¬ gB (nxG gB s z) = gB s) := by
  have h1 := grN_p (gB := gB) (z := z) (v := gB s) 400 s (by first | decide | omega) (by first | decide | omega)
  have h2 : nxG gB s z = grN gB z (gB s) 399 (s + 1) := by
    unfold nxG
    rw [grN, if_pos ⟨h, rfl⟩]
  have h3 := grN_p (gB := gB) (z := z) (v := gB s) 399 (s + 1) (by first | decide | omega) (by first | decide | omega)
  rw [← h2] at h3
  exact ⟨(by first | decide | omega), h1.2.1, h1.2.2.1, h1.2.2.2⟩
/-- the tones of the sounds s .. t - 1 -/
def HTn (tn : Int → Int) (s t : Int) (B : zB) : Prop := (∀ i, s ≤ i → i < t → B 7 0 8 (tn i) = 1) ∧ (∀ x, 0 ≤ x → x < 128 → B 7 0 8 x = 0 ∨ (B 7 0 8 x = 1 ∧ ∃ i, s ≤ i ∧ i < t ∧ tn i = x))
def gthF (F F' : zF) : Prop := ∀ c y k, ¬ (c = 7 ∧ y = 0 ∧ 5 ≤ k ∧ k ≤ 7) → F' c y k = F c y k
def gthB (B B' : zB) : Prop := ∀ c y k x, ¬ (c = 7 ∧ y = 0 ∧ k = 8) → B' c y k x = B c y k x
section
variable {K : zK} {o g D N : Int} {bg en tn tk : Int → Int}
theorem C_g158 {z t v a : Int} {F : zF} {B : zB} (h7 : 0 < K.2 7) (dq : DTq g D N bg en tn tk) (h : CFq K o g D N bg en tn tk F B) (hz : z ≤ N) (t0 : 0 ≤ t ∧ t ≤ z) (f7 : F 7 0 7 = t) (f6 : F 7 0 6 = a) (ha : 0 ≤ a ∧ a ≤ 40000000000000) : f_Scribe_gatherEvent_158 K 0 z F B = some (0, zup3 F 7 0 6 (if t < z then zmin a (gplF g D (bg t)) else a), B) := by
  have h' := h
  obtain ⟨h1, h2, h3, h4, h5⟩ := h'
  have hN := dq.2.2.1
  unfold f_Scribe_gatherEvent_158 f_Scribe_gatherEvent_195
  rw [if_pos ⟨(by first | decide | omega), h7⟩, f7, if_pos (by unfold r32; omega), if_pos (by unfold r32; omega)]
  by_cases c : z ≤ t
  · rw [if_pos c, if_neg (by first | decide | omega)]
    have : zup3 F 7 0 6 a = F := by
      funext c' y k
      rw [zup3_v]
      by_cases e : c' = 7 ∧ y = 0 ∧ k = 6
      · rw [if_pos e, e.1, e.2.1, e.2.2, f6]
      · rw [if_neg e]
    rw [this]
  · obtain ⟨_, _, b1, _⟩ := h5 t t0.1 (by first | decide | omega)
    have bb := (dq.2.2.2.1 t t0.1 (by first | decide | omega)).2.2.1
    have gb := gpl_b (t := bg t) dq.1 dq.2.1 bb
    rw [if_neg c, h1.1, if_pos h1.2, if_pos (by first | decide | omega), b1, C_gp h7 dq h bb, zb_s, f6, if_pos (by unfold r64; omega), if_pos (by unfold r64; omega), if_pos (by first | decide | omega)]
theorem C_g58 {z s : Int} (h7 : 0 < K.2 7) (dq : DTq g D N bg en tn tk) (hz : z ≤ N) (hs : 0 ≤ s ∧ s < z) : ∀ (f m : Nat) (t a : Int) (F : zF) (B : zB), z - t ≤ f → f < m → s ≤ t → t ≤ z → CFq K o g D N bg en tn tk F B → F 7 0 7 = t → F 7 0 6 = a → F 7 0 5 = gplF g D (bg s) → a = mxR (fun i => gplF g D (en i)) (t - s).toNat s (gplF g D (bg s) + 1) → HTn tn s t B → ∃ F' B', f_Scribe_gatherEvent_58 K m 0 z F B = some (0, F', B') ∧ gthF F F' ∧ gthB B B' ∧ F' 7 0 5 = gplF g D (bg s) ∧ F' 7 0 7 = grN (fun i => gplF g D (bg i)) z (gplF g D (bg s)) f t ∧ F' 7 0 6 = (if grN (fun i => gplF g D (bg i)) z (gplF g D (bg s)) f t < z then zmin (mxR (fun i => gplF g D (en i)) (grN (fun i => gplF g D (bg i)) z (gplF g D (bg s)) f t - s).toNat s (gplF g D (bg s) + 1)) (gplF g D (bg (grN (fun i => gplF g D (bg i)) z (gplF g D (bg s)) f t))) else mxR (fun i => gplF g D (en i)) (grN (fun i => gplF g D (bg i)) z (gplF g D (bg s)) f t - s).toNat s (gplF g D (bg s) + 1)) ∧ HTn tn s (grN (fun i => gplF g D (bg i)) z (gplF g D (bg s)) f t) B' := by
  have hN := dq.2.2.1
  have hb : ∀ i, 0 ≤ i → i < N → (0 ≤ gplF g D (bg i) ∧ gplF g D (bg i) ≤ 30000000000000) ∧ (0 ≤ gplF g D (en i) ∧ gplF g D (en i) ≤ 30000000000000) := fun i i0 i1 => ⟨gpl_b dq.1 dq.2.1 (dq.2.2.2.1 i i0 i1).2.2.1, gpl_b dq.1 dq.2.1 (dq.2.2.2.1 i i0 i1).2.2.2⟩
  have bs := (hb s hs.1 (by first | decide | omega)).1
  have ab : ∀ t, s ≤ t → t ≤ z → 0 ≤ mxR (fun i => gplF g D (en i)) (t - s).toNat s (gplF g D (bg s) + 1) ∧ mxR (fun i => gplF g D (en i)) (t - s).toNat s (gplF g D (bg s) + 1) ≤ 40000000000000 := fun t t0 t1 => by
    have := mxR_b (gE := fun i => gplF g D (en i)) (M := 40000000000000) (t - s).toNat s (gplF g D (bg s) + 1) (by first | decide | omega) (fun i i0 i1 => by have := (hb i (by first | decide | omega) (by first | decide | omega)).2; show gplF g D (en i) ≤ _; omega)
    omega
  -- the end of the group
  have fin : ∀ (t a : Int) (F : zF) (B : zB), s ≤ t → t ≤ z → CFq K o g D N bg en tn tk F B → F 7 0 7 = t → F 7 0 6 = a → F 7 0 5 = gplF g D (bg s) → a = mxR (fun i => gplF g D (en i)) (t - s).toNat s (gplF g D (bg s) + 1) → HTn tn s t B → ∃ F' B', f_Scribe_gatherEvent_158 K 0 z F B = some (0, F', B') ∧ gthF F F' ∧ gthB B B' ∧ F' 7 0 5 = gplF g D (bg s) ∧ F' 7 0 7 = t ∧ F' 7 0 6 = (if t < z then zmin (mxR (fun i => gplF g D (en i)) (t - s).toNat s (gplF g D (bg s) + 1)) (gplF g D (bg t)) else mxR (fun i => gplF g D (en i)) (t - s).toNat s (gplF g D (bg s) + 1)) ∧ HTn tn s t B' := fun t a F B st tz hc f7 f6 f5 ea ht => by
    have := ab t st tz
    refine ⟨_, B, C_g158 (v := 0) h7 dq hc hz (by first | decide | omega) f7 f6 (by first | decide | omega), fun c y k n => by rw [zup3_v, if_neg (by first | decide | omega)], fun _ _ _ _ _ => rfl, by rw [zup3_v, if_neg (by first | decide | omega)]; exact f5, by rw [zup3_v, if_neg (by first | decide | omega)]; exact f7, by rw [zup3_v, if_pos (by first | decide | omega), ea], ht⟩
  intro f
  induction f with
  | zero =>
    intro m t a F B hf hm st tz hc f7 f6 f5 ea ht
    obtain ⟨p, rfl⟩ : ∃ p, m = p + 1 := ⟨m - 1, (by first | decide | omega)⟩
    obtain ⟨F1, B1, x1, x2⟩ := fin t a F B st tz hc f7 f6 f5 ea ht
    refine ⟨F1, B1, ?_, by rw [grN]; exact x2⟩
    rw [f_Scribe_gatherEvent_58, if_pos ⟨(by first | decide | omega), h7⟩, f7, if_pos (by unfold r32; omega), if_pos (by unfold r32; omega), if_pos (by first | decide | omega), x1]
  | succ f ih =>
    intro m t a F B hf hm st tz hc f7 f6 f5 ea ht
    obtain ⟨p, rfl⟩ : ∃ p, m = p + 1 := ⟨m - 1, (by first | decide | omega)⟩
    have hc' := hc
    obtain ⟨h1, h2, h3, h4, h5⟩ := hc'
    rw [grN]
    by_cases c : t < z ∧ gplF g D (bg t) = gplF g D (bg s)
    · obtain ⟨_, b2, b3, b4⟩ := h5 t (by first | decide | omega) (by first | decide | omega)
      obtain ⟨_, d2, d3, d4⟩ := dq.2.2.2.1 t (by first | decide | omega) (by first | decide | omega)
      have hbt := hb t (by first | decide | omega) (by first | decide | omega)
      have az := ab t st tz
      have za : zand (tn t) 127 = tn t := by rw [(rm128 d2.1 (by first | decide | omega)).2]; omega
      have hc2 : CFq K o g D N bg en tn tk (zup3 (zup3 F 7 0 6 (zmax a (gplF g D (en t)))) 7 0 7 (t + 1)) (zup4 B 7 0 8 (tn t) 1) := CFq_f hc (by rw [zup3_v, if_neg (by first | decide | omega), zup3_v, if_neg (by first | decide | omega)]) (by rw [zup3_v, if_neg (by first | decide | omega), zup3_v, if_neg (by first | decide | omega)]) (by rw [zup3_v, if_neg (by first | decide | omega), zup3_v, if_neg (by first | decide | omega)]) (fun k x => by rw [zup4_v, if_neg (by first | decide | omega)])
      obtain ⟨F1, B1, x1, x2, x3, x4⟩ := ih p (t + 1) (zmax a (gplF g D (en t))) _ _ (by first | decide | omega) (by first | decide | omega) (by first | decide | omega) (by first | decide | omega) hc2 (by rw [zup3_v, if_pos (by first | decide | omega)]) (by rw [zup3_v, if_neg (by first | decide | omega), zup3_v, if_pos (by first | decide | omega)]) (by rw [zup3_v, if_neg (by first | decide | omega), zup3_v, if_neg (by first | decide | omega)]; exact f5) (by
        rw [show (t + 1 - s).toNat = (t - s).toNat + 1 by omega, mxR_s, ← ea, show s + ((t - s).toNat : Int) = t by omega]) ⟨fun i i0 i1 => by
          rw [zup4_v]
          by_cases e : tn i = tn t
          · rw [if_pos (by first | decide | omega)]
          · rw [if_neg (by first | decide | omega)]
            by_cases e' : i = t
            · rw [e'] at e; exact absurd rfl e
            · exact ht.1 i i0 (by first | decide | omega), fun x x0 x1 => by
          rw [zup4_v]
          by_cases e : x = tn t
          · rw [if_pos (by first | decide | omega)]; exact Or.inr ⟨rfl, t, (by first | decide | omega), (by first | decide | omega), e.symm⟩
          · rw [if_neg (by first | decide | omega)]
            rcases ht.2 x x0 x1 with q | ⟨q, i, i0, i1, i2⟩
            · exact Or.inl q
            · exact Or.inr ⟨q, i, i0, (by first | decide | omega), i2⟩⟩
      refine ⟨F1, B1, ?_, fun c' y k n => ?_, fun c' y k x n => ?_, by rw [if_pos c]; exact x4⟩
      · rw [f_Scribe_gatherEvent_58, if_pos ⟨(by first | decide | omega), h7⟩, f7, if_pos (by unfold r32; omega), if_pos (by unfold r32; omega), if_neg (by first | decide | omega), h1.1, if_pos h1.2, if_pos (by first | decide | omega), b3, C_gp h7 dq hc d3, zb_s, if_pos (by unfold r64; omega), f5, if_pos (by unfold r64; omega), if_pos (zcmp_0.mpr c.2), h1.1, if_pos h1.2, f7, if_pos (by first | decide | omega), b4, C_gp h7 dq hc d4, zb_s, f6, if_pos (by unfold r64; omega), if_pos (by unfold r64; omega), h1.1, if_pos h1.2, f7, if_pos (by first | decide | omega), b2, za, if_pos (by first | decide | omega)]
        exact x1
      · rw [x2 c' y k n, zup3_v, if_neg (by first | decide | omega), zup3_v, if_neg (by first | decide | omega)]
      · rw [x3 c' y k x n, zup4_v, if_neg (by first | decide | omega)]
    · obtain ⟨F1, B1, x1, x2⟩ := fin t a F B st tz hc f7 f6 f5 ea ht
      refine ⟨F1, B1, ?_, by rw [if_neg c]; exact x2⟩
      rw [f_Scribe_gatherEvent_58, if_pos ⟨(by first | decide | omega), h7⟩, f7, if_pos (by unfold r32; omega), if_pos (by unfold r32; omega)]
      by_cases y : z ≤ t
      · rw [if_pos y, x1]
      · obtain ⟨_, b2, b3, b4⟩ := h5 t (by first | decide | omega) (by first | decide | omega)
        obtain ⟨_, d2, d3, d4⟩ := dq.2.2.2.1 t (by first | decide | omega) (by first | decide | omega)
        have hbt := hb t (by first | decide | omega) (by first | decide | omega)
        rw [if_neg y, h1.1, if_pos h1.2, if_pos (by first | decide | omega), b3, C_gp h7 dq hc d3, zb_s, if_pos (by unfold r64; omega), f5, if_pos (by unfold r64; omega), if_neg (fun x => c ⟨(by first | decide | omega), zcmp_0.mp x⟩), x1]
end
end
