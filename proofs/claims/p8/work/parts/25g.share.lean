section
/-! ===== pitches that two events share, both sides ===== -/
/-- the first of c pitches that is (s, a), from k on -/
def fP (rs ra : Int → Int) (c s a : Int) : Nat → Int → Int
  | 0, _ => -1
  | n + 1, k => if c ≤ k then -1 else if rs k = s ∧ ra k = a then k else fP rs ra c s a n (k + 1)
theorem fP_c {rs ra rs' ra' : Int → Int} {c s a : Int} : ∀ {n : Nat} {k : Int}, (∀ j, k ≤ j → j < c → rs j = rs' j ∧ ra j = ra' j) → fP rs ra c s a n k = fP rs' ra' c s a n k := by
  intro n
  induction n with
  | zero => intro k _; rfl
  | succ n ih =>
    intro k h
    unfold fP
    by_cases z : c ≤ k
    · rw [if_pos z, if_pos z]
    · obtain ⟨h1, h2⟩ := h k (Int.le_refl _) (by first | decide | omega)
      rw [if_neg z, if_neg z, h1, h2, ih (fun j p r => h j (by first | decide | omega) r)]
theorem fP_r {rs ra : Int → Int} {c s a : Int} : ∀ {n : Nat} {k : Int}, 0 ≤ k → c ≤ 6 → -1 ≤ fP rs ra c s a n k ∧ fP rs ra c s a n k < 7 := by
  intro n
  induction n with
  | zero => intro k _ _; unfold fP; omega
  | succ n ih =>
    intro k h0 h1
    unfold fP
    by_cases z : c ≤ k
    · rw [if_pos z]; omega
    · rw [if_neg z]
      by_cases y : rs k = s ∧ ra k = a
      · rw [if_pos y]; omega
      · rw [if_neg y]; exact ih (by first | decide | omega) h1
theorem fP_k {rs ra : Int → Int} {c s a : Int} : ∀ {n : Nat} {k : Int}, 0 ≤ k → fP rs ra c s a n k = -1 ∨ (k ≤ fP rs ra c s a n k ∧ fP rs ra c s a n k < c ∧ rs (fP rs ra c s a n k) = s ∧ ra (fP rs ra c s a n k) = a) := by
  intro n
  induction n with
  | zero => intro k _; exact Or.inl rfl
  | succ n ih =>
    intro k h0
    unfold fP
    by_cases z : c ≤ k
    · rw [if_pos z]; exact Or.inl rfl
    · rw [if_neg z]
      by_cases y : rs k = s ∧ ra k = a
      · rw [if_pos y]; exact Or.inr ⟨Int.le_refl _, (by first | decide | omega), y.1, y.2⟩
      · rw [if_neg y]
        rcases ih (k := k + 1) (by first | decide | omega) with h | ⟨h1, h2, h3⟩
        · exact Or.inl h
        · exact Or.inr ⟨(by first | decide | omega), h2, h3⟩
theorem C_hP2 {K : zK} {e s a c : Int} {F : zF} {B : zB} (he : 0 ≤ e ∧ e < K.2 1) (hc : F 1 e 10 = c) (c6 : c ≤ 6) (c0 : 0 ≤ c) (hr : ∀ k, 0 ≤ k → k < c → r32 (B 1 e 12 k) ∧ r32 (B 1 e 13 k)) (rs : r32 s) (ra : r32 a) : ∀ {n m : Nat} {k : Int}, 0 ≤ k → k ≤ c → c - k < n → c - k < m → f_Event_hasPitch_2 K n k e s a F B = some (if fP (B 1 e 12) (B 1 e 13) c s a m k < 0 then 0 else 1, F, B) := by
  intro n
  induction n with
  | zero => intro m k h0 h1 h2 h3; omega
  | succ n ih =>
    intro m k h0 h1 h2 h3
    obtain ⟨m, rfl⟩ : ∃ j, m = j + 1 := ⟨m - 1, (by first | decide | omega)⟩
    have rk : r32 k := by unfold r32; omega
    have rc : r32 c := by unfold r32; omega
    rw [f_Event_hasPitch_2, if_pos he, if_pos rk, hc, if_pos rc]
    unfold fP
    by_cases z : c ≤ k
    · rw [if_pos z, if_pos z]; rfl
    · obtain ⟨r1, r2⟩ := hr k h0 (by first | decide | omega)
      simp only [f_Event_hasPitch_32]
      rw [if_neg z, if_neg z, if_pos (by first | decide | omega), if_pos r1, if_pos rs]
      by_cases y : B 1 e 12 k = s
      · rw [if_pos y, if_pos r2, if_pos ra]
        by_cases y' : B 1 e 13 k = a
        · rw [if_pos y', if_pos (show B 1 e 12 k = s ∧ B 1 e 13 k = a from ⟨y, y'⟩), if_neg (by first | decide | omega)]
        · rw [if_neg y', if_neg (show ¬ (B 1 e 12 k = s ∧ B 1 e 13 k = a) from fun h => y' h.2)]
          exact ih (by first | decide | omega) (by first | decide | omega) (by first | decide | omega) (by first | decide | omega)
      · rw [if_neg y, if_neg (show ¬ (B 1 e 12 k = s ∧ B 1 e 13 k = a) from fun h => y h.1)]
        exact ih (by first | decide | omega) (by first | decide | omega) (by first | decide | omega) (by first | decide | omega)
theorem C_hasP {K : zK} {e s a c : Int} {F : zF} {B : zB} (hK : 3002 ≤ K.1) (he : 0 ≤ e ∧ e < K.2 1) (hc : F 1 e 10 = c) (c6 : c ≤ 6) (c0 : 0 ≤ c) (hr : ∀ k, 0 ≤ k → k < c → r32 (B 1 e 12 k) ∧ r32 (B 1 e 13 k)) (rs : r32 s) (ra : r32 a) : f_Event_hasPitch K e s a F B = some (if fP (B 1 e 12) (B 1 e 13) c s a 7 0 < 0 then 0 else 1, F, B) := C_hP2 he hc c6 c0 hr rs ra (Int.le_refl _) c0 (by first | decide | omega) (by first | decide | omega)
theorem L_hP3 {K : Nat} {w x s a c : Int} {F : zF} {B : zB} (w0 : 0 ≤ w ∧ w < 3) (hx : 0 ≤ x ∧ x < 4000) (hc : B 13 w 21 x = c) (c6 : c ≤ 6) (c0 : 0 ≤ c) (hr : ∀ k, 0 ≤ k → k < c → r32 (B 13 w 28 (6 * x + k)) ∧ r32 (B 13 w 29 (6 * x + k))) (rs : r32 s) (ra : r32 a) : ∀ {n m : Nat} {k : Int}, 0 ≤ k → k ≤ c → c - k < n → c - k < m → f_M_has_3 K n k w x s a F B = some (fP (fun k => B 13 w 28 (6 * x + k)) (fun k => B 13 w 29 (6 * x + k)) c s a m k, F, B) := by
  intro n
  induction n with
  | zero => intro m k h0 h1 h2 h3; omega
  | succ n ih =>
    intro m k h0 h1 h2 h3
    obtain ⟨m, rfl⟩ : ∃ j, m = j + 1 := ⟨m - 1, (by first | decide | omega)⟩
    have rk : r32 k := by unfold r32; omega
    have rc : r32 c := by unfold r32; omega
    rw [f_M_has_3, if_pos w0, if_pos hx, if_pos rk, hc, if_pos rc]
    unfold fP
    by_cases z : c ≤ k
    · rw [if_pos z, if_pos z]
    · obtain ⟨r1, r2⟩ := hr k h0 (by first | decide | omega)
      simp only [f_M_has_49]
      rw [if_neg z, if_neg z, if_pos (by first | decide | omega), if_pos r1, if_pos rs]
      by_cases y : B 13 w 28 (6 * x + k) = s
      · rw [if_pos y, if_pos r2, if_pos ra]
        by_cases y' : B 13 w 29 (6 * x + k) = a
        · rw [if_pos y', if_pos ⟨y, y'⟩]
        · rw [if_neg y', if_neg (fun h => y' h.2)]
          exact ih (by first | decide | omega) (by first | decide | omega) (by first | decide | omega) (by first | decide | omega)
      · rw [if_neg y, if_neg (fun h => y h.1)]
        exact ih (by first | decide | omega) (by first | decide | omega) (by first | decide | omega) (by first | decide | omega)
theorem L_hasM {K : Nat} {w x s a c : Int} {F : zF} {B : zB} (hK : 3002 ≤ K) (w0 : 0 ≤ w ∧ w < 3) (hx : 0 ≤ x ∧ x < 4000) (hc : B 13 w 21 x = c) (c6 : c ≤ 6) (c0 : 0 ≤ c) (hr : ∀ k, 0 ≤ k → k < c → r32 (B 13 w 28 (6 * x + k)) ∧ r32 (B 13 w 29 (6 * x + k))) (rs : r32 s) (ra : r32 a) : f_M_has K w x s a F B = some (fP (fun k => B 13 w 28 (6 * x + k)) (fun k => B 13 w 29 (6 * x + k)) c s a 7 0, F, B) := L_hP3 w0 hx hc c6 c0 hr rs ra (Int.le_refl _) c0 (by first | decide | omega) (by first | decide | omega)
theorem zsh_f : ∀ k : Fin 6, ∀ a : Fin 64, a.val < 2 ^ k.val → zor (a.val : Int) (zshl 1 (k.val : Int)) = (a.val : Int) + 2 ^ k.val ∧ zor (a.val : Int) 0 = (a.val : Int) := by decide +kernel
/-- a bit for each of the first n for which h holds -/
def shM (h : Int → Bool) : Nat → Int
  | 0 => 0
  | n + 1 => shM h n + (if h n = true then 2 ^ n else 0)
theorem shM_b {h : Int → Bool} : ∀ (n : Nat), 0 ≤ shM h n ∧ shM h n < 2 ^ n := by
  intro n
  induction n with
  | zero => exact ⟨Int.le_refl _, by rw [shM]; decide⟩
  | succ n ih =>
    have p : (2 : Int) ^ (n + 1) = 2 ^ n * 2 := Int.pow_succ 2 n
    have q : (0 : Int) < 2 ^ n := Int.pow_pos (by decide)
    rw [shM, p]
    split <;> omega
theorem shM_0 {h : Int → Bool} : ∀ (n : Nat), shM h n = 0 ↔ ∀ j : Int, 0 ≤ j → j < n → h j = false := by
  intro n
  induction n with
  | zero => exact ⟨fun _ j a b => (by first | decide | omega), fun _ => rfl⟩
  | succ n ih =>
    have b := shM_b (h := h) n
    have q : (0 : Int) < 2 ^ n := Int.pow_pos (by decide)
    rw [shM]
    cases e : h n with
    | true =>
      rw [if_pos rfl]
      exact ⟨fun z => (by first | decide | omega), fun z => by have := z n (by first | decide | omega) (by first | decide | omega); rw [e] at this; exact absurd this (by decide)⟩
    | false =>
      rw [if_neg (by decide)]
      constructor
      · intro z j a b'
        by_cases y : j = n
        · rw [y]; exact e
        · exact ih.mp (by first | decide | omega) j a (by first | decide | omega)
      · intro z
        have := ih.mpr (fun j a b' => z j a (by first | decide | omega))
        omega
theorem zsh_i {k : Nat} {a : Int} (hk : k < 6) (h0 : 0 ≤ a) (h1 : a < 2 ^ k) : zor a (zshl 1 (k : Int)) = a + 2 ^ k ∧ zor a 0 = a := by
  have l : (2 : Int) ^ k ≤ 32 := by
    have : k = 0 ∨ k = 1 ∨ k = 2 ∨ k = 3 ∨ k = 4 ∨ k = 5 := by omega
    rcases this with rfl | rfl | rfl | rfl | rfl | rfl <;> decide
  have h := zsh_f ⟨k, hk⟩ ⟨a.toNat, (by first | decide | omega)⟩ (by
    show a.toNat < 2 ^ k
    have : ((2 ^ k : Nat) : Int) = (2 : Int) ^ k := by
      have : k = 0 ∨ k = 1 ∨ k = 2 ∨ k = 3 ∨ k = 4 ∨ k = 5 := by omega
      rcases this with rfl | rfl | rfl | rfl | rfl | rfl <;> decide
    omega)
  rw [show (((⟨a.toNat, (by first | decide | omega)⟩ : Fin 64).val : Nat) : Int) = a by show ((a.toNat : Nat) : Int) = a; omega] at h
  exact h
/-- whether pitch k of event e is one of event e' -/
def shB (e e' c' : Int) (B : zB) (k : Int) : Bool := decide (0 ≤ fP (B 1 e' 12) (B 1 e' 13) c' (B 1 e 12 k) (B 1 e 13 k) 7 0)
theorem C_sh4 {K : zK} {e e' c c' : Int} {F : zF} {B : zB} (hK : 3002 ≤ K.1) (he : 0 ≤ e ∧ e < K.2 1) (he' : 0 ≤ e' ∧ e' < K.2 1) (hc : F 1 e 10 = c) (c0 : 0 ≤ c ∧ c ≤ 6) (hc' : F 1 e' 10 = c') (c0' : 0 ≤ c' ∧ c' ≤ 6) (hr : ∀ k, 0 ≤ k → k < c → r32 (B 1 e 12 k) ∧ r32 (B 1 e 13 k)) (hr' : ∀ k, 0 ≤ k → k < c' → r32 (B 1 e' 12 k) ∧ r32 (B 1 e' 13 k)) : ∀ (d n k : Nat), (k : Int) + d = c → d < n → f_Event_sharedWith_4 K n k (shM (shB e e' c' B) k) e e' F B = some (shM (shB e e' c' B) c.toNat, F, B) := by
  intro d
  induction d with
  | zero =>
    intro n k hk hn
    obtain ⟨n, rfl⟩ : ∃ m, n = m + 1 := ⟨n - 1, (by first | decide | omega)⟩
    rw [f_Event_sharedWith_4, if_pos he, if_pos (by unfold r32; omega), hc, if_pos (by unfold r32; omega), if_pos (by first | decide | omega), show c.toNat = k by omega]
  | succ d ih =>
    intro n k hk hn
    obtain ⟨n, rfl⟩ : ∃ m, n = m + 1 := ⟨n - 1, (by first | decide | omega)⟩
    obtain ⟨r1, r2⟩ := hr k (by first | decide | omega) (by first | decide | omega)
    have b := shM_b (h := shB e e' c' B) k
    obtain ⟨z1, z2⟩ := zsh_i (k := k) (by first | decide | omega) b.1 b.2
    have ih' := ih n (k + 1) (by first | decide | omega) (by first | decide | omega)
    rw [shM, show ((k + 1 : Nat) : Int) = (k : Int) + 1 by omega] at ih'
    rw [f_Event_sharedWith_4, if_pos he, if_pos (by unfold r32; omega), hc, if_pos (by unfold r32; omega), if_neg (by first | decide | omega), if_pos (by first | decide | omega), if_pos he', C_hasP hK he' hc' c0'.2 c0'.1 hr' r1 r2, zb_s]
    simp only [f_Event_sharedWith_39]
    by_cases y : fP (B 1 e' 12) (B 1 e' 13) c' (B 1 e 12 k) (B 1 e 13 k) 7 0 < 0
    · have : shB e e' c' B k = false := by unfold shB; exact decide_eq_false (by first | decide | omega)
      rw [this, if_neg (by decide), Int.add_zero] at ih'
      rw [if_pos y, if_pos (by decide), if_pos rfl, z2]
      exact ih'
    · have : shB e e' c' B k = true := by unfold shB; exact decide_eq_true (by first | decide | omega)
      rw [this, if_pos rfl] at ih'
      rw [if_neg y, if_pos (by decide), if_neg (by decide), z1]
      exact ih'
theorem C_shared {K : zK} {e e' c c' : Int} {F : zF} {B : zB} (hK : 3002 ≤ K.1) (he : 0 ≤ e ∧ e < K.2 1) (he' : 0 ≤ e' ∧ e' < K.2 1) (hc : F 1 e 10 = c) (c0 : 0 ≤ c ∧ c ≤ 6) (hc' : F 1 e' 10 = c') (c0' : 0 ≤ c' ∧ c' ≤ 6) (hr : ∀ k, 0 ≤ k → k < c → r32 (B 1 e 12 k) ∧ r32 (B 1 e 13 k)) (hr' : ∀ k, 0 ≤ k → k < c' → r32 (B 1 e' 12 k) ∧ r32 (B 1 e' 13 k)) : f_Event_sharedWith K e e' F B = some (shM (shB e e' c' B) c.toNat, F, B) :=
  C_sh4 hK he he' hc c0 hc' c0' hr hr' c.toNat K.1 0 (by first | decide | omega) (by first | decide | omega)
theorem L_sh5 {K : Nat} {w x y c : Int} {F : zF} {B : zB} {h : Int → Bool} (w0 : 0 ≤ w ∧ w < 3) (hx : 0 ≤ x ∧ x < 4000) (hc : B 13 w 21 x = c) (c0 : 0 ≤ c ∧ c ≤ 6) (hh : ∀ k, 0 ≤ k → k < c → ∃ r, f_M_has K w y (B 13 w 28 (6 * x + k)) (B 13 w 29 (6 * x + k)) F B = some (r, F, B) ∧ r32 r ∧ (h k = true ↔ 0 ≤ r)) : ∀ (d n k : Nat), (k : Int) + d = c → d < n → f_M_share_5 K n k (if shM h k = 0 then 0 else 1) w x y F B = some (if shM h c.toNat = 0 then 0 else 1, F, B) := by
  intro d
  induction d with
  | zero =>
    intro n k hk hn
    obtain ⟨n, rfl⟩ : ∃ m, n = m + 1 := ⟨n - 1, (by first | decide | omega)⟩
    rw [f_M_share_5, if_pos w0, if_pos hx, if_pos (by unfold r32; omega), hc, if_pos (by unfold r32; omega), if_pos (by first | decide | omega), show c.toNat = k by omega, if_pos]
    split
    · exact Or.inl rfl
    · exact Or.inr rfl
  | succ d ih =>
    intro n k hk hn
    obtain ⟨n, rfl⟩ : ∃ m, n = m + 1 := ⟨n - 1, (by first | decide | omega)⟩
    obtain ⟨r, e, rr, hr⟩ := hh k (by first | decide | omega) (by first | decide | omega)
    have b := shM_b (h := h) k
    have q : (0 : Int) < 2 ^ k := Int.pow_pos (by decide)
    have ih' := ih n (k + 1) (by first | decide | omega) (by first | decide | omega)
    rw [shM, show ((k + 1 : Nat) : Int) = (k : Int) + 1 by omega] at ih'
    rw [f_M_share_5, if_pos w0, if_pos hx, if_pos (by unfold r32; omega), hc, if_pos (by unfold r32; omega), if_neg (by first | decide | omega)]
    simp only [f_M_share_52, f_M_share_57]
    by_cases z : shM h k = 0
    · rw [if_pos z, if_pos (by decide), if_pos rfl, if_pos (by first | decide | omega), e, zb_s, if_pos rr]
      rw [z] at ih'
      by_cases y : r < 0
      · rw [if_pos y]
        have : ¬ h k = true := fun t => by have := hr.mp t; omega
        rw [if_neg this, if_pos (by decide)] at ih'
        exact ih'
      · rw [if_neg y]
        rw [if_pos (hr.mpr (by first | decide | omega)), if_neg (by first | decide | omega)] at ih'
        exact ih'
    · rw [if_neg z, if_pos (by decide), if_neg (by decide)]
      rw [if_neg (show ¬ shM h k + (if h k = true then 2 ^ k else 0) = 0 by split <;> omega)] at ih'
      exact ih'
theorem P_share {K : zK} {Km : Nat} {w e e' x y : Int} {F : zF} {B : zB} {Fm : zF} {Bm : zB} (hK : 3002 ≤ K.1) (hKm : 3002 ≤ Km) (w0 : 0 ≤ w ∧ w < 3) (he : 0 ≤ e ∧ e < K.2 1) (he' : 0 ≤ e' ∧ e' < K.2 1) (hx : 0 ≤ x ∧ x < 4000) (hy : 0 ≤ y ∧ y < 4000) (h1 : EVW w e x F B Bm) (h2 : EVW w e' y F B Bm) : f_Event_sharedWith K e e' F B = some (shM (shB e e' (F 1 e' 10) B) (F 1 e 10).toNat, F, B) ∧ f_M_share Km w x y Fm Bm = some (if shM (shB e e' (F 1 e' 10) B) (F 1 e 10).toNat = 0 then 0 else 1, Fm, Bm) := by
  obtain ⟨_, _, _, _, _, _, _, _, _, _, _, _, a2, a3, a4, a5⟩ := h1
  obtain ⟨_, _, _, _, _, _, _, _, _, _, _, _, b2, b3, b4, b5⟩ := h2
  have ra : ∀ k, 0 ≤ k → k < F 1 e 10 → r32 (B 1 e 12 k) ∧ r32 (B 1 e 13 k) := fun k u t => by
    have := a4 k u t
    unfold r32
    omega
  have rb : ∀ k, 0 ≤ k → k < F 1 e' 10 → r32 (B 1 e' 12 k) ∧ r32 (B 1 e' 13 k) := fun k u t => by
    have := b4 k u t
    unfold r32
    omega
  refine ⟨C_shared hK he he' rfl a3 rfl b3 ra rb, ?_⟩
  refine L_sh5 w0 hx a2 a3 (fun k u t => ?_) (F 1 e 10).toNat Km 0 (by first | decide | omega) (by first | decide | omega)
  obtain ⟨c1, c2, c3, c4⟩ := a4 k u t
  have rk := ra k u t
  refine ⟨_, L_hasM hKm w0 hy b2 b3.2 b3.1 (fun j p r => ?_) (by rw [← c1]; exact rk.1) (by rw [← c2]; exact rk.2), ?_, ?_⟩
  · obtain ⟨d1, d2, _⟩ := b4 j p r
    rw [← d1, ← d2]
    exact rb j p r
  · have := fP_r (rs := fun k => Bm 13 w 28 (6 * y + k)) (ra := fun k => Bm 13 w 29 (6 * y + k)) (c := F 1 e' 10) (s := Bm 13 w 28 (6 * x + k)) (a := Bm 13 w 29 (6 * x + k)) (n := 7) (k := 0) (Int.le_refl _) b3.2
    unfold r32
    omega
  · unfold shB
    rw [c1, c2, fP_c (rs' := fun k => Bm 13 w 28 (6 * y + k)) (ra' := fun k => Bm 13 w 29 (6 * y + k)) (fun j p r => ⟨(b4 j p r).1, (b4 j p r).2.1⟩)]
    exact decide_eq_true_iff
end
