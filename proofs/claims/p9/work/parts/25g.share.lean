section
section
/-! ===== pitches that two events share, both sides ===== -/
/-- the first of c pitches that is (s, a), from k on -/
def fP (rs ra : Int → Int) (c s a : Int) : Nat → Int → Int
  | 0, _ => -1
  | n + 1, k => if c ≤ k then -1 else if rs k = s ∧ ra k = a then k else fP rs ra c s a n (k + 1)
theorem fP_c {rs ra rs' ra' : Int → Int} {c s a : Int} : ∀ {n : Nat} {k : Int}, (∀ j, k ≤ j → j < c → rs j = rs' j ∧ ra j = ra' j) → fP rs ra c s a n k = fP rs' ra' c s a n k := by
  intro n
  induction n with
  | zero => intro k _; rfl
  | succ n ih =>
    intro k h
    unfold fP
    by_cases z : c ≤ k
    · rw [if_pos z, if_pos z]
    · obtain ⟨h1, h2⟩ := h k (Int.le_refl _) (by first | decide | omega)
      rw [if_neg z, if_neg z, h1, h2, ih (fun j p r => h j (by first | decide | omega) r)]
theorem fP_r {rs ra : Int → Int} {c s a : Int} : ∀ {n : Nat} {k : Int}, 0 ≤ k → c ≤ 6 → -1 ≤ fP rs ra c s a n k ∧ fP rs ra c s a n k < 7 := by
  intro n
  induction n with
  | zero => intro k _ _; unfold fP; omega
  | succ n ih =>
    intro k h0 h1
    unfold fP
    by_cases z : c ≤ k
    · rw [if_pos z]; omega
    · rw [if_neg z]
      by_cases y : rs k = s ∧ ra k = a
      · rw [if_pos y]; omega
      · rw [if_neg y]; exact ih (by first | decide | omega) h1
theorem fP_k {rs ra : Int → Int} {c s a : Int} : ∀ {n : Nat} {k : Int}, 0 ≤ k → fP rs ra c s a n k = -1 ∨ (k ≤ fP rs ra c s a n k ∧ fP rs ra c s a n k < c ∧ rs (fP rs ra c s a n k) = s ∧ ra (fP rs ra c s a n k) = a) := by
  intro n
  induction n with
  | zero => intro k _; exact Or.inl rfl
  | succ n ih =>
    intro k h0
    unfold fP
    by_cases z : c ≤ k
    · rw [if_pos z]; exact Or.inl rfl
    · rw [if_neg z]
      by_cases y : rs k = s ∧ ra k = a
      · rw [if_pos y]; exact Or.inr ⟨Int.le_refl _, (by first | decide | omega), y.1, y.2⟩
      · rw [if_neg y]
        rcases ih (k := k + 1) (by first | decide | omega) with h | ⟨h1, h2, h3⟩
        · exact Or.inl h
        · exact Or.inr ⟨(by first | decide | omega), h2, h3⟩
theorem C_hP2 {K : zK} {e s a c : Int} {F : zF} {B : zB} (he : 0 ≤ e ∧ e < K.2 1) (hc : F 1 e 10 = c) (c6 : c ≤ 6) (c0 : 0 ≤ c) (hr : ∀ k, 0 ≤ k → k < c → r32 (B 1 e 12 k) ∧ r32 (B 1 e 13 k)) (rs : r32 s) (ra : r32 a) : ∀ {n m : Nat} {k : Int}, 0 ≤ k → k ≤ c → c - k < n → c - k < m → f_Event_hasPitch_2 K n k e s a F B = some (if fP (B 1 e 12) (B 1 e 13) c s a m k < 0 then 0 else 1, F, B) := by
  intro n
  induction n with
  | zero => intro m k h0 h1 h2 h3; omega
  | succ n ih =>
    intro m k h0 h1 h2 h3
    obtain ⟨m, rfl⟩ : ∃ j, m = j + 1 := ⟨m - 1, (by first | decide | omega)⟩
    have rk : r32 k := by unfold r32; omega
    have rc : r32 c := by unfold r32; omega
    rw [f_Event_hasPitch_2, if_pos he, if_pos rk, hc, if_pos rc]
    unfold fP
    by_cases z : c ≤ k
    · rw [if_pos z, if_pos z]; rfl
    · obtain ⟨r1, r2⟩ := hr k h0 (by first | decide | omega)
      simp only [f_Event_hasPitch_32]
      rw [if_neg z, if_neg z, if_pos (by first | decide | omega), if_pos r1, if_pos rs]
      by_cases y : B 1 e 12 k = s
      · rw [if_pos y, if_pos r2, if_pos ra]
        by_cases y' : B 1 e 13 k = a
        · rw [if_pos y', if_pos (show B 1 e 12 k = s ∧ B 1 e 13 k = a from ⟨y, y'⟩), if_neg (by first | decide | omega)]
        · rw [if_neg y', if_neg (show ¬ (B 1 e 12 k = s ∧ B 1 e 13 k = a) from fun h => y' h.2)]
          exact ih (by first | decide | omega) (by first | decide | omega) (by first | decide | omega) (by first | decide | omega)
      · rw [if_neg y, if_neg (show ¬ (B 1 e 12 k = s ∧ B 1 e 13 k = a) from fun h => y h.1)]
        exact ih (by first | decide | omega) (by first | decide | omega) (by first | decide | omega) (by first | decide | omega)
theorem C_hasP {K : zK} {e s a c : Int} {F : zF} {B : zB} (hK : 3002 ≤ K.1) (he : 0 ≤ e ∧ e < K.2 1) (hc : F 1 e 10 = c) (c6 : c ≤ 6) (c0 : 0 ≤ c) (hr : ∀ k, 0 ≤ k → k < c → r32 (B 1 e 12 k) ∧ r32 (B 1 e 13 k)) (rs : r32 s) (ra : r32 a) : f_Event_hasPitch K e s a F B = some (if fP (B 1 e 12) (B 1 e 13) c s a 7 0 < 0 then 0 else 1, F, B) := C_hP2 he hc c6 c0 hr rs ra (Int.le_refl _) c0 (by first | decide | omega) (by first | decide | omega)
theorem L_hP3 {K : Nat} {w x s a c : Int} {F : zF} {B : zB} (w0 : 0 ≤ w ∧ w < 3) (hx : 0 ≤ x ∧ x < 4000) (hc : B 13 w 21 x = c) (c6 : c ≤ 6) (c0 : 0 ≤ c) (hr : ∀ k, 0 ≤ k → k < c → r32 (B 13 w 28 (6 * x + k)) ∧ r32 (B 13 w 29 (6 * x + k))) (rs : r32 s) (ra : r32 a) : ∀ {n m : Nat} {k : Int}, 0 ≤ k → k ≤ c → c - k < n → c - k < m → f_M_has_3 K n k w x s a F B = some (fP (fun k => B 13 w 28 (6 * x + k)) (fun k => B 13 w 29 (6 * x + k)) c s a m k, F, B) := by
  intro n
  induction n with
  | zero => intro m k h0 h1 h2 h3; omega
  | succ n ih =>
    intro m k h0 h1 h2 h3
    obtain ⟨m, rfl⟩ : ∃ j, m = j + 1 := ⟨m - 1, (by first | decide | omega)⟩
    have rk : r32 k := by unfold r32; omega
    have rc : r32 c := by unfold r32; omega
    rw [f_M_has_3, if_pos w0, if_pos hx, if_pos rk, hc, if_pos rc]
    unfold fP
    by_cases z : c ≤ k
    · rw [if_pos z, if_pos z]
    · obtain ⟨r1, r2⟩ := hr k h0 (by first | decide | omega)
      simp only [f_M_has_49]
      rw [if_neg z, if_neg z, if_pos (by first | decide | omega), if_pos r1, if_pos rs]
      by_cases y : B 13 w 28 (6 * x + k) = s
      · rw [if_pos y, if_pos r2, if_pos ra]
        by_cases y' : B 13 w 29 (6 * x + k) = a
        · rw [if_pos y', if_pos ⟨y, y'⟩]
        · rw [if_neg y', if_neg (fun h => y' h.2)]
          exact ih (by first | decide | omega) (by first | decide | omega) (by first | decide | omega) (by first | decide | omega)
      · rw [if_neg y, if_neg (fun h => y h.1)]
        exact ih (by first | decide | omega) (by first | decide | omega) (by first | decide | omega) (by first | decide | omega)
theorem L_hasM {K : Nat} {w x s a c : Int} {F : zF} {B : zB} (hK : 3002 ≤ K) (w0 : 0 ≤ w ∧ w < 3) (hx : 0 ≤ x ∧ x < 4000) (hc : B 13 w 21 x = c) (c6 : c ≤ 6) (c0 : 0 ≤ c) (hr : ∀ k, 0 ≤ k → k < c → r32 (B 13 w 28 (6 * x + k)) ∧ r32 (B 13 w 29 (6 * x + k))) (rs : r32 s) (ra : r32 a) : f_M_has K w x s a F B = some (fP (fun k => B 13 w 28 (6 * x + k)) (fun k => B 13 w 29 (6 * x + k)) c s a 7 0, F, B) := L_hP3 w0 hx hc c6 c0 hr rs ra (Int.le_refl _) c0 (by first | decide | omega) (by first | decide | omega)
theorem zsh_f : ∀ k : Fin 6, ∀ a : Fin 64, a.val < 2 ^ k.val → zor (a.val : Int) (zshl 1 (k.val : Int)) = (a.val : Int) + 2 ^ k.val ∧ zor (a.val : Int) 0 = (a.val : Int) := by decide +kernel
/-- a bit for each of the first n for which h holds -/
def shM (h : Int → Bool) : Nat → Int
  | 0 => 0
  | n + 1 => shM h n + (if h n = true then 2 ^ n else 0)
theorem shM_b {h : Int → Bool} : ∀ (n : Nat), 0 ≤ shM h n ∧ shM h n < 2 ^ n := by
  intro n
  induction n with
  | zero => exact ⟨Int.le_refl _, by rw [shM]; decide⟩
  | succ n ih =>
    have p : (2 : Int) ^ (n + 1) = 2 ^ n * 2 := Int.pow_succ 2 n
    have q : (0 : Int) < 2 ^ n := Int.pow_pos (by decide)
    rw [shM, p]
    split <;> omega
theorem shM_0 {h : Int → Bool} : ∀ (n : Nat), shM h n = 0 ↔ ∀ j : Int, 0 ≤ j → j < n → h j = false := by
  intro n
  induction n with
  | zero => exact ⟨fun _ j a b => (by first | decide | omega), fun _ => rfl⟩
  | succ n ih =>
    have b := shM_b (h := h) n
    have q : (0 : Int) < 2 ^ n := Int.pow_pos (by decide)
    rw [shM]
    cases e : h n with
    | true =>
      rw [if_pos rfl]
      exact ⟨fun z => (by first | decide | omega), fun z => by have := z n (by first | decide | omega) (by first | decide | omega); rw [e] at this; exact absurd this (by decide)⟩
    | false =>
      rw [if_neg (by decide)]
      constructor
      · intro z j a b'
        by_cases y : j = n
        · rw [y]; exact e
        · exact ih.mp (by first | decide | omega) j a (by first | decide | omega)
      · intro z
        have := ih.mpr (fun j a b' => z j a (by first | decide | omega))
        omega
theorem zsh_i {k : Nat} {a : Int} (hk : k < 6) (h0 : 0 ≤ a) (h1 : a < 2 ^ k) : zor a (zshl 1 (k : Int)) = a + 2 ^ k ∧ zor a 0 = a := by
  have l : (2 : Int) ^ k ≤ 32 := by
    have : k = 0 ∨ k = 1 ∨ k = 2 ∨ k = 3 ∨ k = 4 ∨ k = 5 := by omega
    rcases this with rfl | rfl | rfl | rfl | rfl | rfl <;> decide
  have h := zsh_f ⟨k, hk⟩ ⟨a.toNat, (by first | decide | omega)⟩ (by
    show a.toNat < 2 ^ k
    have : ((2 ^ k : Nat) : Int) = (2 : Int) ^ k := by
      have : k = 0 ∨ k = 1 ∨ k = 2 ∨ k = 3 ∨ k = 4 ∨ k = 5 := by omega
      rcases this with rfl | rfl | rfl | rfl | rfl | rfl <;> decide
    omega)
  rw [show (((⟨a.toNat, (by first | decide | omega)⟩ : Fin 64).val : Nat) : Int) = a by show ((a.toNat : Nat) : Int) = a; omega] at h
  exact h
/-- whether pitch k of event e is one of event e' -/
def shB (e e' c' : Int) (B : zB) (k : Int) : Bool := decide (0 ≤ fP (B 1 e' 12) (B 1 e' 13) c' (B 1 e 12 k) (B 1 e 13 k) 7 0)
theorem C_sh4 {K : zK} {e e' c c' : Int} {F : zF} {B : zB} (hK : 3002 ≤ K.1) (he : 0 ≤ e ∧ e < K.2 1) (he' : 0 ≤ e' ∧ e' < K.2 1) (hc : F 1 e 10 = c) (c0 : 0 ≤ c ∧ c ≤ 6) (hc' : F 1 e' 10 = c') (c0' : 0 ≤ c' ∧ c' ≤ 6) (hr : ∀ k, 0 ≤ k → k < c → r32 (B 1 e 12 k) ∧ r32 (B 1 e 13 k)) (hr' : ∀ k, 0 ≤ k → k < c' → r32 (B 1 e' 12 k) ∧ r32 (B 1 e' 13 k)) : ∀ (d n k : Nat), (k : Int) + d = c → d < n → f_Event_sharedWith_4 K n k (shM (shB e e' c' B) k) e e' F B = some (shM (shB e e' c' B) c.toNat, F, B) := by
  intro d
  induction d with
  | zero =>
    intro n k hk hn
    obtain ⟨n, rfl⟩ : ∃ m, n = m + 1 := ⟨n - 1, (by first | decide | omega)⟩
    rw [f_Event_sharedWith_4, if_pos he, if_pos (by unfold r32; omega), hc, if_pos (by unfold r32; omega), if_pos (by first | decide | omega), show c.toNat = k by omega]
  | succ d ih =>
    intro n k hk hn
    obtain ⟨n, rfl⟩ : ∃ m, n = m + 1 := ⟨n - 1, (by first | decide | omega)⟩
    obtain ⟨r1, r2⟩ := hr k (by first | decide | omega) (by first | decide | omega)
    have b := shM_b (h := shB e e' c' B) k
    obtain ⟨z1, z2⟩ := zsh_i (k := k) (by first | decide | omega) b.1 b.2
    have ih' := ih n (k + 1) (by first | decide | omega) (by first | decide | omega)
    rw [shM, show ((k + 1 : Nat) : Int) = (k : Int) + 1 by omega] at ih'
    rw [f_Event_sharedWith_4, if_pos he, if_pos (by unfold r32; omega), hc, if_pos (by unfold r32; omega), if_neg (by first | decide | omega), if_pos (by first | decide | omega), if_pos he', C_hasP hK he' hc' c0'.2 c0'.1 hr' r1 r2, zb_s]
    simp only [f_Event_sharedWith_39]
    by_cases y : fP (B 1 e' 12) (B 1 e' 13) c' (B 1 e 12 k) (B 1 e 13 k) 7 0 < 0
    · have : shB e e' c' B k = false := by unfold shB; exact decide_eq_false (by first | decide | omega)
      rw [this, if_neg (by decide), Int.add_zero] at ih'
      rw [if_pos y, if_pos (by decide), if_pos rfl, z2]
      exact ih'
    · have : shB e e' c' B k = true := by unfold shB; exact decide_eq_true (by first | decide | omega)
      rw [this, if_pos rfl] at ih'
      rw [if_neg y, if_pos (by decide), if_neg (by decide), z1]
      exact ih'
theorem C_shared {K : zK} {e e' c c' : Int} {F : zF} {B : zB} (hK : 3002 ≤ K.1) (he : 0 ≤ e ∧ e < K.2 1) (he' : 0 ≤ e' ∧ e' < K.2 1) (hc : F 1 e 10 = c) (c0 : 0 ≤ c ∧ c ≤ 6) (hc' : F 1 e' 10 = c') (c0' : 0 ≤ c' ∧ c' ≤ 6) (hr : ∀ k, 0 ≤ k → k < c → r32 (B 1 e 12 k) ∧ r32 (B 1 e 13 k)) (hr' : ∀ k, 0 ≤ k → k < c' → r32 (B 1 e' 12 k) ∧ r32 (B 1 e' 13 k)) : f_Event_sharedWith K e e' F B = some (shM (shB e e' c' B) c.toNat, F, B) :=
  C_sh4 hK he he' hc c0 hc' c0' hr hr' c.toNat K.1 0 (by first | decide | omega) (by first | decide | omega)
theorem L_sh5 {K : Nat} {w x y c : Int} {F : zF} {B : zB} {h : Int → Bool} (w0 : 0 ≤ w ∧ w < 3) (hx : 0 ≤ x ∧ x < 4000) (hc : B 13 w 21 x = c) (c0 : 0 ≤ c ∧ c ≤ 6) (hh : ∀ k, 0 ≤ k → k < c → ∃ r, f_M_has K w y (B 13 w 28 (6 * x + k)) (B 13 w 29 (6 * x + k)) F B = some (r, F, B) ∧ r32 r ∧ (h k = true ↔ 0 ≤ r)) : ∀ (d n k : Nat), (k : Int) + d = c → d < n → f_M_share_5 K n k (if shM h k = 0 then 0 else 1) w x y F B = some (if shM h c.toNat = 0 then 0 else 1, F, B) := by
  intro d
  induction d with
  | zero =>
    intro n k hk hn
    obtain ⟨n, rfl⟩ : ∃ m, n = m + 1 := ⟨n - 1, (by first | decide | omega)⟩
    rw [f_M_share_5, if_pos w0, if_pos hx, if_pos (by unfold r32; omega), hc, if_pos (by unfold r32; omega), if_pos (by first | decide | omega), show c.toNat = k by omega, if_pos]
    split
    · exact Or.inl rfl
    · exact Or.inr rfl
  | succ d ih =>
    intro n k hk hn
    obtain ⟨n, rfl⟩ : ∃ m, n = m + 1 := ⟨n - 1, (by first | decide | omega)⟩
    obtain ⟨r, e, rr, hr⟩ := hh k (by first | decide | omega) (by first | decide | omega)
    have b := shM_b (h := h) k
    have q : (0 : Int) < 2 ^ k := Int.pow_pos (by decide)
    have ih' := ih n (k + 1) (by first | decide | omega) (by first | decide | omega)
    rw [shM, show ((k + 1 : Nat) : Int) = (k : Int) + 1 by omega] at ih'
    rw [f_M_share_5, if_pos w0, if_pos hx, if_pos (by unfold r32; omega), hc, if_pos (by unfold r32; omega), if_neg (by first | decide | omega)]
    simp only [f_M_share_52, f_M_share_57]
    by_cases z : shM h k = 0
    · rw [if_pos z, if_pos (by decide), if_pos rfl, if_pos (by first | decide | omega), e, zb_s, if_pos rr]
      rw [z] at ih'
      by_cases y : r < 0
      · rw [if_pos y]
        have : ¬ h k = true := fun t => by have := hr.mp t; omega
        rw [if_neg this, if_pos (by decide)] at ih'
        exact ih'
      · rw [if_neg y]
        rw [if_pos (hr.mpr (by first | decide | omega)), if_neg (by first | decide | omega)] at ih'
        exact ih'
    · rw [if_neg z, if_pos (by decide), if_neg (by decide)]
      rw [if_neg (show ¬ shM h k + (if h k = true then 2 ^ k else 0) = 0 by split <;> omega)] at ih'
      exact ih'
theorem P_share {K : zK} {Km : Nat} {w e e' x y : Int} {F : zF} {B : zB} {Fm : zF} {Bm : zB} (hK : 3002 ≤ K.1) (hKm : 3002 ≤ Km) (w0 : 0 ≤ w ∧ w < 3) (he : 0 ≤ e ∧ e < K.2 1) (he' : 0 ≤ e' ∧ e' < K.2 1) (hx : 0 ≤ x ∧ x < 4000) (hy : 0 ≤ y ∧ y < 4000) (h1 : EVW w e x F B Bm) (h2 : EVW w e' y F B Bm) : f_Event_sharedWith K e e' F B = some (shM (shB e e' (F 1 e' 10) B) (F 1 e 10).toNat, F, B) ∧ f_M_share Km w x y Fm Bm = some (if shM (shB e e' (F 1 e' 10) B) (F 1 e 10).toNat = 0 then 0 else 1, Fm, Bm) := by
  obtain ⟨_, _, _, _, _, _, _, _, _, _, _, _, a2, a3, a4, a5⟩ := h1
  obtain ⟨_, _, _, _, _, _, _, _, _, _, _, _, b2, b3, b4, b5⟩ := h2
  have ra : ∀ k, 0 ≤ k → k < F 1 e 10 → r32 (B 1 e 12 k) ∧ r32 (B 1 e 13 k) := fun k u t => by
    have := a4 k u t
    unfold r32
    omega
  have rb : ∀ k, 0 ≤ k → k < F 1 e' 10 → r32 (B 1 e' 12 k) ∧ r32 (B 1 e' 13 k) := fun k u t => by
    have := b4 k u t
    unfold r32
    omega
  refine ⟨C_shared hK he he' rfl a3 rfl b3 ra rb, ?_⟩
  refine L_sh5 w0 hx a2 a3 (fun k u t => ?_) (F 1 e 10).toNat Km 0 (by first | decide | omega) (by first | decide | omega)
  obtain ⟨c1, c2, c3, c4⟩ := a4 k u t
  have rk := ra k u t
  refine ⟨_, L_hasM hKm w0 hy b2 b3.2 b3.1 (fun j p r => ?_) (by rw [← c1]; exact rk.1) (by rw [← c2]; exact rk.2), ?_, ?_⟩
  · obtain ⟨d1, d2, _⟩ := b4 j p r
    rw [← d1, ← d2]
    exact rb j p r
  · have := fP_r (rs := fun k => Bm 13 w 28 (6 * y + k)) (ra := fun k => Bm 13 w 29 (6 * y + k)) (c := F 1 e' 10) (s := Bm 13 w 28 (6 * x + k)) (a := Bm 13 w 29 (6 * x + k)) (n := 7) (k := 0) (Int.le_refl _) b3.2
    unfold r32
    omega
  · unfold shB
    rw [c1, c2, fP_c (rs' := fun k => Bm 13 w 28 (6 * y + k)) (ra' := fun k => Bm 13 w 29 (6 * y + k)) (fun j p r => ⟨(b4 j p r).1, (b4 j p r).2.1⟩)]
    exact decide_eq_true_iff
end
end
section
section
/-! ===== brackets judged, both sides ===== -/
theorem de_128 {D : Int} (h0 : 0 < D) : 0 < de D ∧ de D ≤ WW ∧ (128 % de D = 0 ↔ D % 6350400 = 0) := by
  unfold de gc WW
  obtain ⟨d, hd⟩ : ∃ d : Nat, D = d := ⟨D.toNat, (by first | decide | omega)⟩
  rw [show D.toNat = d by omega, show (812851200 : Int).toNat = 812851200 by decide, hd]
  have g0 : 0 < Nat.gcd d 812851200 := Nat.gcd_pos_of_pos_right _ (by decide)
  obtain ⟨x, hx⟩ := Nat.gcd_dvd_right d 812851200
  obtain ⟨y, hy⟩ := Nat.gcd_dvd_left d 812851200
  generalize hg : Nat.gcd d 812851200 = g at *
  have e : (812851200 : Int) / (g : Int) = x := by
    have : (812851200 : Int) = (g : Int) * (x : Int) := by
      have := congrArg (fun n : Nat => (n : Int)) hx
      simpa using this
    rw [this]
    exact Int.mul_ediv_cancel_left _ (by first | decide | omega)
  rw [e]
  have x0 : 0 < x := by
    rcases Nat.eq_zero_or_pos x with z | z
    · rw [z, Nat.mul_zero] at hx; exact absurd hx (by decide)
    · exact z
  have xl : x ≤ 812851200 := by
    rw [hx]
    exact Nat.le_mul_of_pos_left _ g0
  refine ⟨(by first | decide | omega), (by first | decide | omega), ?_⟩
  constructor
  · intro h
    have h1 : x ∣ 128 := Int.natCast_dvd_natCast.mp (show ((x : Nat) : Int) ∣ ((128 : Nat) : Int) from Int.dvd_of_emod_eq_zero h)
    obtain ⟨t, ht⟩ := h1
    have h2 : 6350400 * t = g := by
      have : x * (6350400 * t) = x * g := by
        calc x * (6350400 * t) = 6350400 * (x * t) := by ac_rfl
          _ = 6350400 * 128 := by rw [← ht]
          _ = g * x := by rw [← hx]
          _ = x * g := Nat.mul_comm _ _
      exact Nat.eq_of_mul_eq_mul_left x0 this
    have h3 : 6350400 ∣ d := ⟨t * y, by rw [hy, ← h2]; ac_rfl⟩
    have := Nat.mod_eq_zero_of_dvd h3
    omega
  · intro h
    have h1 : 6350400 ∣ d := Nat.dvd_of_mod_eq_zero (by first | decide | omega)
    have h2 : 6350400 ∣ g := by rw [← hg]; exact Nat.dvd_gcd h1 ⟨128, by decide⟩
    obtain ⟨t, ht⟩ := h2
    have h3 : t * x = 128 := by
      have : 6350400 * (t * x) = 6350400 * 128 := by
        calc 6350400 * (t * x) = 6350400 * t * x := by ac_rfl
          _ = g * x := by rw [ht]
          _ = 6350400 * 128 := by rw [← hx]
      exact Nat.eq_of_mul_eq_mul_left (by decide) this
    have h4 : x ∣ 128 := ⟨t, by rw [← h3]; exact Nat.mul_comm _ _⟩
    exact Int.emod_eq_zero_of_dvd (show ((x : Nat) : Int) ∣ ((128 : Nat) : Int) from Int.natCast_dvd_natCast.mpr h4)
theorem bar_e {a b bar : Int} (a0 : 0 ≤ a) (h : a < b) (hb : 0 < bar) : a / bar = (b - 1) / bar ↔ b ≤ (a / bar + 1) * bar := by
  have e1 := Int.mul_ediv_add_emod a bar
  have e2 := Int.emod_nonneg a (show bar ≠ 0 by omega)
  have e3 := Int.emod_lt_of_pos a hb
  have f1 := Int.mul_ediv_add_emod (b - 1) bar
  have f2 := Int.emod_nonneg (b - 1) (show bar ≠ 0 by omega)
  have f3 := Int.emod_lt_of_pos (b - 1) hb
  have g : a / bar ≤ (b - 1) / bar := Int.ediv_le_ediv hb (by first | decide | omega)
  rw [Int.add_mul, Int.one_mul, Int.mul_comm (a / bar) bar]
  constructor
  · intro z; rw [← z] at f1; omega
  · intro z
    have : (b - 1) / bar < a / bar + 1 := by
      apply Int.ediv_lt_of_lt_mul hb
      rw [Int.add_mul, Int.one_mul, Int.mul_comm (a / bar) bar]
      omega
    omega
/-- a voice's events and places as both sides have them, ready to be judged -/
def JS (K : zK) (q v w : Int) (m : Nat) (bar : Int) (g : Int → Int) (F : zF) (B : zB) (Fm : zF) (Bm : zB) : Prop := (F 4 q 6 = m ∧ Fm 14 0 36 = m ∧ Fm 14 0 35 = v ∧ Fm 14 0 6 = w ∧ 1 ≤ m ∧ m ≤ 200) ∧ (∀ j : Int, 0 ≤ j → j < m → 1 ≤ g j) ∧ sumZ g m ≤ 100 * bar ∧ (∀ i : Nat, i < m → EVW w (B 4 q 5 i) (1000 * v + i) F B Bm ∧ F 1 (B 4 q 5 i) 0 = sumZ g i ∧ Bm 13 w 14 (1000 * v + i) = nu (sumZ g i) ∧ Bm 13 w 15 (1000 * v + i) = de (sumZ g i) ∧ F 1 (B 4 q 5 i) 1 = g i) ∧ (∀ t, 0 ≤ t → t < 200 → 0 ≤ B 4 q 5 t ∧ B 4 q 5 t < K.2 1)
/-- the bracket at event i stands -/
def BSk (q : Int) (m : Nat) (bar : Int) (g : Int → Int) (F : zF) (B : zB) (i : Nat) : Prop := F 1 (B 4 q 5 i) 5 = 0 ∨ (∃ i' : Nat, i = i' + 1 ∧ F 1 (B 4 q 5 i') 5 = F 1 (B 4 q 5 i) 5) ∨ ∃ j : Nat, i < j ∧ j ≤ m ∧ (∀ t : Nat, i ≤ t → t < j → F 1 (B 4 q 5 t) 5 = F 1 (B 4 q 5 i) 5) ∧ (j = m ∨ ¬ F 1 (B 4 q 5 j) 5 = F 1 (B 4 q 5 i) 5) ∧ sumZ g j ≤ (sumZ g i / bar + 1) * bar ∧ (sumZ g j - sumZ g i) % 6350400 = 0
theorem BSk_f {q bar : Int} {m i : Nat} {g : Int → Int} {F F' : zF} {B : zB} (h : BSk q m bar g F B i) (f : ∀ y, F' 1 y 5 = F 1 y 5) : BSk q m bar g F' B i := by
  unfold BSk at h ⊢
  simp only [f]
  exact h
/-- the bracket that begins at i ends ahead of j, for both loops -/
theorem br_j {K : zK} {Km m i : Nat} {q v w bar : Int} {g : Int → Int} {F : zF} {B : zB} {Fm : zF} {Bm : zB} (h4 : 0 ≤ q ∧ q < K.2 4) (v0 : 0 ≤ v ∧ v < 4) (w0 : 0 ≤ w ∧ w < 3) (hJ : JS K q v w m bar g F B Fm Bm) (hi : i < m) : ∀ (d n n' k : Nat), k + d = m → i < k → d < n → d < n' → ∃ j : Nat, k ≤ j ∧ j ≤ m ∧ f_Part_bracketStands_62 K n k (sumZ g k) (sumZ g i) (F 1 (B 4 q 5 i) 5) q bar F B = f_Part_bracketStands_107 K (sumZ g j) (sumZ g i) bar F B ∧ f_M_lastOuter_2 Km n' (1000 * v + k - 1) w (1000 * v + i) (1000 * v + m) Fm Bm = some (1000 * v + j - 1, Fm, Bm) ∧ (∀ t : Nat, k ≤ t → t < j → F 1 (B 4 q 5 t) 5 = F 1 (B 4 q 5 i) 5) ∧ (j = m ∨ ¬ F 1 (B 4 q 5 j) 5 = F 1 (B 4 q 5 i) 5) := by
  obtain ⟨⟨c6, c36, c35, cw, m0, m1⟩, hg, hs, he, hV⟩ := hJ
  obtain ⟨ei, _⟩ := he i hi
  have b5 := ei.2.2.2.2.2.1
  intro d
  induction d with
  | zero =>
    intro n n' k hk ik hn hn'
    obtain ⟨n, rfl⟩ : ∃ m, n = m + 1 := ⟨n - 1, (by first | decide | omega)⟩
    obtain ⟨n', rfl⟩ : ∃ m, n' = m + 1 := ⟨n' - 1, (by first | decide | omega)⟩
    refine ⟨k, (by first | decide | omega), (by first | decide | omega), ?_, ?_, fun t a b => (by first | decide | omega), Or.inl (by first | decide | omega)⟩
    · rw [f_Part_bracketStands_62, if_pos h4, if_pos (by unfold r32; omega), c6, if_pos (by unfold r32; omega), if_pos (by first | decide | omega)]
    · rw [f_M_lastOuter_2, if_pos (by unfold r32; omega), if_pos (by unfold r32; omega), if_pos (by first | decide | omega), f_M_lastOuter_32]
  | succ d ih =>
    intro n n' k hk ik hn hn'
    obtain ⟨n, rfl⟩ : ∃ m, n = m + 1 := ⟨n - 1, (by first | decide | omega)⟩
    obtain ⟨n', rfl⟩ : ∃ m, n' = m + 1 := ⟨n' - 1, (by first | decide | omega)⟩
    obtain ⟨ek, _, _, _, gk⟩ := he k (by first | decide | omega)
    have k5 := ek.2.2.2.2.2.1
    have hk' := hV k (by first | decide | omega) (by first | decide | omega)
    have r1 : r32 (F 1 (B 4 q 5 k) 5) := by unfold r32; omega
    have r2 : r32 (F 1 (B 4 q 5 i) 5) := by unfold r32; omega
    have e : 1000 * v + (k : Int) - 1 + 1 = 1000 * v + k := by omega
    have cE : f_Part_bracketStands_62 K (n + 1) k (sumZ g k) (sumZ g i) (F 1 (B 4 q 5 i) 5) q bar F B = if F 1 (B 4 q 5 k) 5 = F 1 (B 4 q 5 i) 5 then f_Part_bracketStands_62 K n ((k : Int) + 1) (sumZ g k + F 1 (B 4 q 5 k) 1) (sumZ g i) (F 1 (B 4 q 5 i) 5) q bar F B else f_Part_bracketStands_107 K (sumZ g k) (sumZ g i) bar F B := by
      rw [f_Part_bracketStands_62, if_pos h4, if_pos (by unfold r32; omega), c6, if_pos (by unfold r32; omega), if_neg (by first | decide | omega), if_pos (by first | decide | omega), if_pos hk', if_pos r1, if_pos r2]
    have mE : f_M_lastOuter_2 Km (n' + 1) (1000 * v + k - 1) w (1000 * v + i) (1000 * v + m) Fm Bm = if F 1 (B 4 q 5 k) 5 = F 1 (B 4 q 5 i) 5 then f_M_lastOuter_2 Km n' (1000 * v + k) w (1000 * v + i) (1000 * v + m) Fm Bm else some (1000 * v + k - 1, Fm, Bm) := by
      rw [f_M_lastOuter_2, e, if_pos (by unfold r32; omega), if_pos (by unfold r32; omega), if_neg (by first | decide | omega), if_pos w0, if_pos (by first | decide | omega), if_pos (by first | decide | omega), ← k5.1, ← b5.1, if_pos r1, if_pos r2]
      rfl
    rw [cE, mE]
    by_cases z : F 1 (B 4 q 5 k) 5 = F 1 (B 4 q 5 i) 5
    · rw [if_pos z, if_pos z, gk]
      obtain ⟨j, j0, j1, j2, j3, j4, j5⟩ := ih n n' (k + 1) (by first | decide | omega) (by first | decide | omega) (by first | decide | omega) (by first | decide | omega)
      rw [sumZ, show ((k + 1 : Nat) : Int) = (k : Int) + 1 by omega] at j2
      rw [show 1000 * v + ((k + 1 : Nat) : Int) - 1 = 1000 * v + k by omega] at j3
      refine ⟨j, (by first | decide | omega), j1, j2, j3, fun t a b => ?_, j5⟩
      by_cases y : t = k
      · rw [y]; exact z
      · exact j4 t (by first | decide | omega) b
    · rw [if_neg z, if_neg z]
      exact ⟨k, (by first | decide | omega), (by first | decide | omega), rfl, rfl, fun t a b => (by first | decide | omega), Or.inr z⟩
/-- what the class answers of the bracket at i -/
theorem C_107 {K : zK} {a b bar : Int} {F : zF} {B : zB} (a0 : 0 ≤ a) (h : a < b) (hb : 0 < bar) (b1 : b ≤ 1000000000000) (br : bar ≤ 1000000000000) : f_Part_bracketStands_107 K b a bar F B = some (if b ≤ (a / bar + 1) * bar ∧ (b - a) % 6350400 = 0 then 1 else 0, F, B) := by
  have q1 : 0 ≤ a / bar := Int.ediv_nonneg a0 (by first | decide | omega)
  have q2 : a / bar ≤ a := Int.ediv_le_self _ a0
  have q3 : 0 ≤ (b - 1) / bar := Int.ediv_nonneg (by first | decide | omega) (by first | decide | omega)
  have q4 : (b - 1) / bar ≤ b - 1 := Int.ediv_le_self _ (by first | decide | omega)
  have q5 := Int.emod_nonneg (b - a) (show (6350400 : Int) ≠ 0 by decide)
  have q6 := Int.emod_lt_of_pos (b - a) (show (0 : Int) < 6350400 by decide)
  unfold f_Part_bracketStands_107 f_Part_bracketStands_139 f_Part_bracketStands_140
  rw [zldv_e a0 (by first | decide | omega) hb (by first | decide | omega), zldv_e (by first | decide | omega) (by first | decide | omega) hb (by first | decide | omega), zlrm_e (by first | decide | omega) (by first | decide | omega) (by decide) (by decide), if_pos (lI_n0 hb (by unfold r64; omega)), if_pos (by unfold r64; omega), if_pos (by unfold r64; omega)]
  by_cases z : a / bar = (b - 1) / bar
  · rw [if_pos (zcmp_0.mpr z), if_pos (by unfold r64; omega)]
    have z' := (bar_e a0 h hb).mp z
    by_cases y : (b - a) % 6350400 = 0
    · rw [if_pos (zcmp_0.mpr y), if_pos (by decide), if_pos ⟨z', y⟩]
    · rw [if_neg (fun t => y (zcmp_0.mp t)), if_pos (by decide), if_neg (fun t => y t.2)]
  · rw [if_neg (fun t => z (zcmp_0.mp t)), if_pos (by decide), if_neg (fun t => z ((bar_e a0 h hb).mpr t.1))]
end
end
section
section
/-! ===== brackets judged: the reference ===== -/
theorem FR_k {n d bar r : Int} (h : FR n d bar) (r0 : 0 ≤ r) : FR (r * n) d (r * bar) := by
  obtain ⟨a, b, c, e⟩ := h
  exact ⟨a, b, Int.mul_nonneg r0 c, by rw [Int.mul_assoc, e, Int.mul_assoc]⟩
/-- the step of the reference's loop ahead of the ties -/
def joS (rec : Int → Int → Int → zF → zB → zO) (K : Nat) (l3 l2 l1 : Int) (F10 : zF) (B10 : zB) : zO := if 0 ≤ (F10 14 0 6) ∧ (F10 14 0 6) < 3 then if 0 ≤ (l1 + l3) ∧ (l1 + l3) < 4000 then if r32 (B10 13 (F10 14 0 6) 25 (l1 + l3)) then (if (B10 13 (F10 14 0 6) 25 (l1 + l3)) ≤ 0 then f_M_judge_115 rec K (l1 + l3) l3 l2 l1 F10 B10 else (if l3 = 0 then f_M_judge_110 rec K (l1 + l3) l3 l2 l1 F10 B10 else if 0 ≤ ((l1 + l3) - 1) ∧ ((l1 + l3) - 1) < 4000 then if r32 (B10 13 (F10 14 0 6) 25 ((l1 + l3) - 1)) then (if (B10 13 (F10 14 0 6) 25 ((l1 + l3) - 1)) = (B10 13 (F10 14 0 6) 25 (l1 + l3)) then f_M_judge_115 rec K (l1 + l3) l3 l2 l1 F10 B10 else f_M_judge_110 rec K (l1 + l3) l3 l2 l1 F10 B10) else none else none)) else none else none else none
theorem joS_e {K n : Nat} {l3 l2 l1 : Int} {F : zF} {B : zB} : f_M_judge_48 K (n + 1) l3 l2 l1 F B = if r32 l3 then if r32 (F 14 0 36) then (if (F 14 0 36) ≤ l3 then f_M_judge_265 K l2 F B else zbind (f_M_good K F B) (fun r10 F10 B10 => if r32 r10 then (if r10 = 0 then f_M_judge_265 K l2 F10 B10 else joS (f_M_judge_48 K n) K l3 l2 l1 F10 B10) else none)) else none else none := rfl
theorem L_jo {K : zK} {Km m i j : Nat} {q v w n d : Int} {g : Int → Int} {F : zF} {B : zB} {Fm : zF} {Bm : zB} (hKm : 812851200 < Km) (v0 : 0 ≤ v ∧ v < 4) (w0 : 0 ≤ w ∧ w < 3) (hn : 1 ≤ n ∧ n ≤ 12) (hd : d = 2 ∨ d = 4 ∨ d = 8 ∨ d = 16) (m4 : Fm 13 w 4 = n) (m5 : Fm 13 w 5 = d) (hJ : JS K q v w m (barV n d) g F B Fm Bm) (h17 : Fm 14 0 17 = 0) (hi : i < m) (ij : i < j) (jm : j ≤ m) (hl : f_M_lastOuter Km w (1000 * v + i) (1000 * v + m) Fm Bm = some (1000 * v + j - 1, Fm, Bm)) (h26 : 0 ≤ Bm 13 w 26 (1000 * v + i) ∧ Bm 13 w 26 (1000 * v + i) ≤ 3000) : ∃ G, (∀ c y k, ¬ (c = 14 ∧ y = 0 ∧ k ≤ 1) → G c y k = Fm c y k) ∧ f_M_judgeOuter Km i Fm Bm = some (0, if sumZ g j ≤ (sumZ g i / barV n d + 1) * barV n d ∧ (sumZ g j - sumZ g i) % 6350400 = 0 then G else flM G Bm 13 (Bm 13 w 26 (1000 * v + i)), Bm) := by
  obtain ⟨⟨c6, c36, c35, cw, mm0, mm1⟩, hg, hs, he, hV⟩ := hJ
  obtain ⟨b1, b2, b3, b4, b5⟩ := bar_v hn hd
  have ei := he i hi
  obtain ⟨k, rfl⟩ : ∃ k, j = k + 1 := ⟨j - 1, (by first | decide | omega)⟩
  have ek := he k (by first | decide | omega)
  have ek5 := ek.1.2.2.2.2.1
  have gk := hg k (by first | decide | omega) (by first | decide | omega)
  have s0 := sumZ_0 hg i (by first | decide | omega)
  have s1 := sumZ_0 hg k (by first | decide | omega)
  have s2 := sumZ_m hg (m - (k + 1)) (k + 1) (by first | decide | omega)
  have s3 : sumZ g i < sumZ g (k + 1) := by
    have := sumZ_m (m := k + 1) (fun j a b => hg j a (by first | decide | omega)) (k + 1 - i) i (by first | decide | omega)
    omega
  have e1 : sumZ g (k + 1) = sumZ g k + g k := rfl
  generalize hbar : barV n d = bar at *
  generalize hP : sumZ g i = P at *
  generalize hQ : sumZ g (k + 1) = Q at *
  have q0 : 0 ≤ P / bar := Int.ediv_nonneg s0 (by first | decide | omega)
  have q1 := Int.mul_ediv_add_emod P bar
  have q2 := Int.emod_nonneg P (show bar ≠ 0 by omega)
  have q3 := Int.emod_lt_of_pos P b4
  have q4 : (P / bar + 1) * bar = bar * (P / bar) + bar := by rw [Int.add_mul, Int.one_mul, Int.mul_comm]
  have rn : r32 n := by unfold r32; omega
  have rd : r32 d := by unfold r32; omega
  unfold f_M_judgeOuter
  rw [cw, if_pos w0, c35, c36, hl, zb_s, cw, if_pos w0, if_pos (by first | decide | omega), show 1000 * v + ((k + 1 : Nat) : Int) - 1 = 1000 * v + k by omega, ek.2.2.1, ek.2.2.2.1, ek5.1, ek5.2.1, ek.2.2.2.2, L_plusR hKm (FR_r s1) (FR_r (by first | decide | omega)) (by first | decide | omega), zb_s, ← e1]
  have f6 : fr Fm Q 14 0 6 = w := by rw [fr_n (by first | decide | omega)]; exact cw
  have f4 : fr Fm Q 13 w 4 = n := by rw [fr_n (by first | decide | omega)]; exact m4
  have f5 : fr Fm Q 13 w 5 = d := by rw [fr_n (by first | decide | omega)]; exact m5
  rw [f6, if_pos w0, if_pos (by first | decide | omega), f4, f5, if_pos rn, if_pos rd, ei.2.2.1, ei.2.2.2.1, L_oftR (FR_r s0) b5 (by first | decide | omega) (by first | decide | omega) (by first | decide | omega) (by first | decide | omega) b4 (by first | decide | omega), zb_s, f6, if_pos w0, f4, f5, if_pos rn, if_pos rd, fr_0, fr_1, L_cmpR hKm (FR_r (by first | decide | omega)) (FR_k b1 (by first | decide | omega)) (by first | decide | omega) (by first | decide | omega), zb_s]
  have e160 : ∀ s : Int, s = 0 ∨ s = 1 → f_M_judgeOuter_160 Km (de Q) (nu Q) (1000 * v + i) s (fr Fm Q) Bm = some (0, if s = 1 ∧ (Q - P) % 6350400 = 0 then fr (fr Fm Q) (Q - P) else flM (fr (fr Fm Q) (Q - P)) Bm 13 (Bm 13 w 26 (1000 * v + i)), Bm) := by
    intro s hs'
    have g17 : fr (fr Fm Q) (Q - P) 14 0 17 = 0 := by rw [fr_n (by first | decide | omega), fr_n (by first | decide | omega)]; exact h17
    have g6 : fr (fr Fm Q) (Q - P) 14 0 6 = w := by rw [fr_n (by first | decide | omega), fr_n (by first | decide | omega)]; exact cw
    obtain ⟨d0, d1, d2⟩ := de_128 (D := Q - P) (by first | decide | omega)
    have WWe : WW = 812851200 := rfl
    have rz : 0 ≤ 128 % de (Q - P) ∧ 128 % de (Q - P) < de (Q - P) := ⟨Int.emod_nonneg _ (by first | decide | omega), Int.emod_lt_of_pos _ d0⟩
    have fail : f_M_judgeOuter_206 Km (1000 * v + i) (fr (fr Fm Q) (Q - P)) Bm = some (0, flM (fr (fr Fm Q) (Q - P)) Bm 13 (Bm 13 w 26 (1000 * v + i)), Bm) := by
      unfold f_M_judgeOuter_206 f_M_judgeOuter_221
      rw [g6, if_pos w0, if_pos (by first | decide | omega), L_failAt g17 (by first | decide | omega), zb_s]
    unfold f_M_judgeOuter_160
    rw [f6, if_pos w0, if_pos (by first | decide | omega), ei.2.2.1, ei.2.2.2.1, L_minusR hKm (FR_r (by first | decide | omega)) (FR_r s0) (by first | decide | omega) (by first | decide | omega), zb_s, fr_1]
    rcases hs' with rfl | rfl
    · rw [if_pos (by decide), if_pos rfl, if_neg (fun z => absurd z.1 (by decide))]
      exact fail
    · rw [if_pos (by decide), if_neg (by decide), if_pos (lI_n0 d0 (by unfold r64; omega)), zlrm_e (by decide) (by decide) d0 (by first | decide | omega), if_pos (by unfold r64; omega)]
      by_cases z : 128 % de (Q - P) = 0
      · rw [if_pos (zcmp_0.mpr z), f_M_judgeOuter_221, if_pos ⟨rfl, d2.mp z⟩]
      · rw [if_neg (fun t => z (zcmp_0.mp t)), if_neg (fun t => z (d2.mpr t.2))]
        exact fail
  refine ⟨fr (fr Fm Q) (Q - P), fun c y k h => by rw [fr_n h, fr_n h], ?_⟩
  by_cases z : Q ≤ (P / bar + 1) * bar
  · have r14 : ¬ 0 < (if Q < (P / bar + 1) * bar then (-1 : Int) else if Q = (P / bar + 1) * bar then 0 else 1) := by
      by_cases y : Q < (P / bar + 1) * bar
      · rw [if_pos y]; decide
      · rw [if_neg y, if_pos (by first | decide | omega)]; decide
    rw [if_pos (by split; decide; split <;> decide), if_neg r14, e160 1 (Or.inr rfl)]
    by_cases y : (Q - P) % 6350400 = 0
    · rw [if_pos ⟨rfl, y⟩, if_pos ⟨z, y⟩]
    · rw [if_neg (fun t => y t.2), if_neg (fun t => y t.2)]
  · have r14 : 0 < (if Q < (P / bar + 1) * bar then (-1 : Int) else if Q = (P / bar + 1) * bar then 0 else 1) := by
      rw [if_neg (by first | decide | omega), if_neg (by first | decide | omega)]; decide
    rw [if_pos (by split; decide; split <;> decide), if_pos r14, e160 0 (Or.inl rfl), if_neg (fun t => absurd t.1 (by decide)), if_neg (fun t => z t.1)]
/-- the bracket at event i, both sides -/
theorem P_outer {K : zK} {Km m i : Nat} {q v w n d op : Int} {g : Int → Int} {rec : Int → Int → Int → zF → zB → zO} {F : zF} {B : zB} {Fm : zF} {Bm : zB} (hK : 3002 ≤ K.1) (hKm : 812851200 < Km) (h4 : 0 ≤ q ∧ q < K.2 4) (v0 : 0 ≤ v ∧ v < 4) (w0 : 0 ≤ w ∧ w < 3) (hn : 1 ≤ n ∧ n ≤ 12) (hd : d = 2 ∨ d = 4 ∨ d = 8 ∨ d = 16) (m4 : Fm 13 w 4 = n) (m5 : Fm 13 w 5 = d) (hJ : JS K q v w m (barV n d) g F B Fm Bm) (h17 : Fm 14 0 17 = 0) (hi : i < m) : ∃ b G, f_Part_bracketStands K q i (barV n d) F B = some (b, F, B) ∧ (∀ c y k, ¬ (c = 14 ∧ y = 0 ∧ k ≤ 1) → G c y k = Fm c y k) ∧ ((b = 1 ∧ joS rec Km i op (1000 * v) Fm Bm = f_M_judge_115 rec Km (1000 * v + i) i op (1000 * v) G Bm ∧ BSk q m (barV n d) g F B i) ∨ (b = 0 ∧ joS rec Km i op (1000 * v) Fm Bm = f_M_judge_115 rec Km (1000 * v + i) i op (1000 * v) (flM G Bm 13 (Bm 13 w 26 (1000 * v + i))) Bm ∧ F 1 (B 4 q 5 i) 6 = Bm 14 0 8 (Bm 13 w 26 (1000 * v + i)) ∧ (0 ≤ Bm 13 w 26 (1000 * v + i) ∧ Bm 13 w 26 (1000 * v + i) ≤ 3000) ∧ (0 ≤ F 1 (B 4 q 5 i) 6 ∧ F 1 (B 4 q 5 i) 6 ≤ 3000))) := by
  have hJ' := hJ
  obtain ⟨⟨c6, c36, c35, cw, mm0, mm1⟩, hg, hs, he, hV⟩ := hJ
  obtain ⟨b1, b2, b3, b4, b5⟩ := bar_v hn hd
  obtain ⟨ei, p0, p14, p15, pg⟩ := he i hi
  have e5 := ei.2.2.2.2.2.1
  have e8 := ei.2.2.2.2.2.2.2.1
  have hie := hV i (by first | decide | omega) (by first | decide | omega)
  have r5 : r32 (F 1 (B 4 q 5 i) 5) := by unfold r32; omega
  have ri : r32 (i : Int) := by unfold r32; omega
  have s0 := sumZ_0 hg i (by first | decide | omega)
  by_cases z5 : F 1 (B 4 q 5 i) 5 = 0
  · refine ⟨1, Fm, ?_, fun _ _ _ _ => rfl, Or.inl ⟨rfl, ?_, Or.inl z5⟩⟩
    · unfold f_Part_bracketStands f_Part_bracketStands_42
      rw [if_pos h4, if_pos (by first | decide | omega), if_pos hie, if_pos r5, if_pos z5]
    · unfold joS
      rw [cw, if_pos w0, if_pos (by first | decide | omega), ← e5.1, if_pos r5, if_pos (by first | decide | omega)]
  · -- a bracket is asked for: its loop, and the reference's
    have go : ∃ b G, f_Part_bracketStands_36 K (F 1 (B 4 q 5 i) 5) q i (barV n d) F B = some (b, F, B) ∧ (∀ c y k, ¬ (c = 14 ∧ y = 0 ∧ k ≤ 1) → G c y k = Fm c y k) ∧ ((b = 1 ∧ f_M_judgeOuter Km i Fm Bm = some (0, G, Bm) ∧ BSk q m (barV n d) g F B i) ∨ (b = 0 ∧ f_M_judgeOuter Km i Fm Bm = some (0, flM G Bm 13 (Bm 13 w 26 (1000 * v + i)), Bm))) := by
      obtain ⟨k1, hk1⟩ : ∃ k, K.1 = k + 1 := ⟨K.1 - 1, (by first | decide | omega)⟩
      obtain ⟨j, j0, j1, j2, j3, j4, j5⟩ := br_j (Km := Km) h4 v0 w0 hJ' hi (m - (i + 1)) k1 Km (i + 1) (by first | decide | omega) (by first | decide | omega) (by first | decide | omega) (by first | decide | omega)
      rw [show 1000 * v + ((i + 1 : Nat) : Int) - 1 = 1000 * v + i by omega] at j3
      obtain ⟨G, gn, jo⟩ := L_jo (K := K) (Km := Km) (i := i) (j := j) hKm v0 w0 hn hd m4 m5 hJ' h17 hi (by first | decide | omega) j1 j3 ⟨(e8 (by first | decide | omega)).2.1, (e8 (by first | decide | omega)).2.2.1⟩
      have lt : sumZ g i < sumZ g j := by
        have := sumZ_m (m := j) (fun t a b => hg t a (by first | decide | omega)) (j - i) i (by first | decide | omega)
        omega
      have le := sumZ_m hg (m - j) j (by first | decide | omega)
      have c62 : f_Part_bracketStands_36 K (F 1 (B 4 q 5 i) 5) q i (barV n d) F B = f_Part_bracketStands_107 K (sumZ g j) (sumZ g i) (barV n d) F B := by
        unfold f_Part_bracketStands_36
        rw [if_pos (by unfold r64; omega), if_pos (zcmp_g.mpr b4), if_pos h4, if_pos (by first | decide | omega), if_pos hie, p0, show f_Part_bracketStands_62 K K.1 = f_Part_bracketStands_62 K (k1 + 1) by rw [← hk1], f_Part_bracketStands_62, if_pos h4, if_pos ri, c6, if_pos (by unfold r32; omega), if_neg (by first | decide | omega), if_pos (by first | decide | omega), if_pos hie, if_pos r5, if_pos r5, if_pos rfl, pg, ← j2]
        rfl
      rw [c62, C_107 s0 lt b4 (by first | decide | omega) (by first | decide | omega), jo]
      by_cases y : sumZ g j ≤ (sumZ g i / barV n d + 1) * barV n d ∧ (sumZ g j - sumZ g i) % 6350400 = 0
      · refine ⟨1, G, by rw [if_pos y], gn, Or.inl ⟨rfl, by rw [if_pos y], Or.inr (Or.inr ⟨j, (by first | decide | omega), j1, fun t a b => ?_, j5, y.1, y.2⟩)⟩⟩
        by_cases e : t = i
        · rw [e]
        · exact j4 t (by first | decide | omega) b
      · exact ⟨0, G, by rw [if_neg y], gn, Or.inr ⟨rfl, by rw [if_neg y]⟩⟩
    obtain ⟨b, G, g1, g2, g3⟩ := go
    have e110 : ∀ G', f_M_judgeOuter Km i Fm Bm = some (0, G', Bm) → f_M_judge_110 rec Km (1000 * v + i) i op (1000 * v) Fm Bm = f_M_judge_115 rec Km (1000 * v + i) i op (1000 * v) G' Bm := fun G' h => by
      unfold f_M_judge_110
      rw [h, zb_s]
    have fin : ∀ (cl : f_Part_bracketStands K q i (barV n d) F B = f_Part_bracketStands_36 K (F 1 (B 4 q 5 i) 5) q i (barV n d) F B) (mr : joS rec Km i op (1000 * v) Fm Bm = f_M_judge_110 rec Km (1000 * v + i) i op (1000 * v) Fm Bm), ∃ b G, f_Part_bracketStands K q i (barV n d) F B = some (b, F, B) ∧ (∀ c y k, ¬ (c = 14 ∧ y = 0 ∧ k ≤ 1) → G c y k = Fm c y k) ∧ ((b = 1 ∧ joS rec Km i op (1000 * v) Fm Bm = f_M_judge_115 rec Km (1000 * v + i) i op (1000 * v) G Bm ∧ BSk q m (barV n d) g F B i) ∨ (b = 0 ∧ joS rec Km i op (1000 * v) Fm Bm = f_M_judge_115 rec Km (1000 * v + i) i op (1000 * v) (flM G Bm 13 (Bm 13 w 26 (1000 * v + i))) Bm ∧ F 1 (B 4 q 5 i) 6 = Bm 14 0 8 (Bm 13 w 26 (1000 * v + i)) ∧ (0 ≤ Bm 13 w 26 (1000 * v + i) ∧ Bm 13 w 26 (1000 * v + i) ≤ 3000) ∧ (0 ≤ F 1 (B 4 q 5 i) 6 ∧ F 1 (B 4 q 5 i) 6 ≤ 3000))) := by
      intro cl mr
      refine ⟨b, G, by rw [cl]; exact g1, g2, ?_⟩
      rcases g3 with ⟨h1, h2, h3⟩ | ⟨h1, h2⟩
      · exact Or.inl ⟨h1, by rw [mr]; exact e110 _ h2, h3⟩
      · have e8' := e8 (by first | decide | omega)
        exact Or.inr ⟨h1, by rw [mr]; exact e110 _ h2, e8'.1, ⟨e8'.2.1, e8'.2.2.1⟩, e8'.2.2.2⟩
    by_cases i0 : i = 0
    · refine fin ?_ ?_
      · unfold f_Part_bracketStands
        rw [if_pos h4, if_pos (by first | decide | omega), if_pos hie, if_pos r5, if_neg z5, if_pos ri, if_pos (by first | decide | omega)]
      · unfold joS
        rw [cw, if_pos w0, if_pos (by first | decide | omega), ← e5.1, if_pos r5, if_neg (by first | decide | omega), if_pos (by first | decide | omega)]
    · obtain ⟨i', rfl⟩ : ∃ k, i = k + 1 := ⟨i - 1, (by first | decide | omega)⟩
      obtain ⟨ep, _⟩ := he i' (by first | decide | omega)
      have ep5 := ep.2.2.2.2.2.1
      have hpe := hV i' (by first | decide | omega) (by first | decide | omega)
      have rp : r32 (F 1 (B 4 q 5 i') 5) := by unfold r32; omega
      have x1 : ((i' + 1 : Nat) : Int) - 1 = i' := by omega
      have x2 : 1000 * v + ((i' + 1 : Nat) : Int) - 1 = 1000 * v + i' := by omega
      by_cases y : F 1 (B 4 q 5 i') 5 = F 1 (B 4 q 5 ((i' + 1 : Nat) : Int)) 5
      · refine ⟨1, Fm, ?_, fun _ _ _ _ => rfl, Or.inl ⟨rfl, ?_, Or.inr (Or.inl ⟨i', rfl, y⟩)⟩⟩
        · unfold f_Part_bracketStands f_Part_bracketStands_42
          rw [if_pos h4, if_pos (by first | decide | omega), if_pos hie, if_pos r5, if_neg z5, if_pos ri, if_neg (by first | decide | omega), x1, if_pos (by first | decide | omega), if_pos hpe, if_pos rp, if_pos y]
        · unfold joS
          rw [cw, if_pos w0, if_pos (by first | decide | omega), ← e5.1, if_pos r5, if_neg (by first | decide | omega), if_neg (by first | decide | omega), x2, if_pos (by first | decide | omega), ← ep5.1, if_pos rp, if_pos y]
      · refine fin ?_ ?_
        · unfold f_Part_bracketStands
          rw [if_pos h4, if_pos (by first | decide | omega), if_pos hie, if_pos r5, if_neg z5, if_pos ri, if_neg (by first | decide | omega), x1, if_pos (by first | decide | omega), if_pos hpe, if_pos rp, if_neg y]
        · unfold joS
          rw [cw, if_pos w0, if_pos (by first | decide | omega), ← e5.1, if_pos r5, if_neg (by first | decide | omega), if_neg (by first | decide | omega), x2, if_pos (by first | decide | omega), ← ep5.1, if_pos rp, if_neg y]
end
end
section
section
/-! ===== ties and slurs judged, both sides ===== -/
theorem mkb_f : ∀ a : Fin 128, (zand (a.val : Int) 1 = 0 ∨ zand (a.val : Int) 1 = 1) ∧ (zand (a.val : Int) 2 = 0 ∨ zand (a.val : Int) 2 = 2) ∧ (zand (a.val : Int) 4 = 0 ∨ zand (a.val : Int) 4 = 4) := by decide +kernel
theorem mkb_i {a : Int} (h0 : 0 ≤ a) (h1 : a < 128) : (zand a 1 = 0 ∨ zand a 1 = 1) ∧ (zand a 2 = 0 ∨ zand a 2 = 2) ∧ (zand a 4 = 0 ∨ zand a 4 = 4) := by
  have h := mkb_f ⟨a.toNat, (by first | decide | omega)⟩
  rw [show (((⟨a.toNat, (by first | decide | omega)⟩ : Fin 128).val : Nat) : Int) = a by show ((a.toNat : Nat) : Int) = a; omega] at h
  exact h
/-- whether a slur is open behind an event with marks a -/
def opN (a op : Int) : Int := if zand a 2 = 0 then (if zand a 4 = 0 then op else 0) else 1
/-- the event's slurs don't stand -/
def slX (a op : Int) : Prop := (¬ zand a 4 = 0 ∧ op = 0) ∨ (¬ zand a 2 = 0 ∧ ¬ op = 0 ∧ zand a 4 = 0)
theorem opN_b {a op : Int} (h : op = 0 ∨ op = 1) : opN a op = 0 ∨ opN a op = 1 := by
  unfold opN
  split
  · split
    · exact h
    · exact Or.inl rfl
  · exact Or.inr rfl
theorem L_176 {K : Nat} {rec : Int → Int → Int → zF → zB → zO} {a x i op l1 w : Int} {F : zF} {B : zB} (a0 : 0 ≤ a) (a1 : a < 128) (hop : op = 0 ∨ op = 1) (hw : F 14 0 6 = w) (w0 : 0 ≤ w ∧ w < 3) (hx : 0 ≤ x ∧ x < 4000) (h20 : 0 ≤ B 13 w 20 x ∧ B 13 w 20 x ≤ 3000) (hb : F 14 0 17 = 0 ∨ bad F) : ∃ G, f_M_judge_176 rec K a x i op l1 F B = rec (i + 1) (opN a op) l1 G (zup4 B 13 w 27 x (opN a op)) ∧ ((bad F → G = F) ∧ (F 14 0 17 = 0 → ¬ slX a op → G = F) ∧ (F 14 0 17 = 0 → slX a op → G = flM F B 11 (B 13 w 20 x))) := by
  obtain ⟨_, h2, h4⟩ := mkb_i a0 a1
  have ro : r32 op := by unfold r32; omega
  have r2 : r32 (zand a 2) := by unfold r32; omega
  have r4 : r32 (zand a 4) := by unfold r32; omega
  have f20 : 0 ≤ B 13 w 20 x ∧ B 13 w 20 x < 3001 := by omega
  have fl : ∀ G : zF, G 14 0 17 = 0 ∨ bad G → f_M_failAt K 11 (B 13 w 20 x) G B = some (0, if G 14 0 17 = 0 then flM G B 11 (B 13 w 20 x) else G, B) := fun G h => by
    rcases h with h | h
    · rw [L_failAt h f20, if_pos h]
    · rw [L_failAtB h, if_neg (by unfold bad at h; omega)]
  have nb : ∀ {G : zF}, bad G → ¬ G 14 0 17 = 0 := fun h => by unfold bad at h; omega
  have e239 : ∀ (G : zF) (op' : Int), G 14 0 6 = w → op' = 0 ∨ op' = 1 → f_M_judge_239 rec K a x i op' l1 G B = rec (i + 1) (if zand a 2 = 0 then op' else 1) l1 G (zup4 B 13 w 27 x (if zand a 2 = 0 then op' else 1)) := fun G op' hG ho => by
    unfold f_M_judge_239 f_M_judge_248
    rw [if_pos r2, hG, if_pos w0, if_pos hx, if_pos ho, if_pos w0, if_pos hx, if_pos (Or.inr rfl)]
    rcases h2 with y | y
    · rw [y, if_pos (Int.le_refl _), if_pos rfl]
    · rw [y, if_neg (by decide), if_neg (by decide)]
  rcases h4 with y4 | y4
  · -- it closes no slur
    have e176 : f_M_judge_176 rec K a x i op l1 F B = f_M_judge_212 rec K a x i op l1 F B := by
      unfold f_M_judge_176 f_M_judge_203
      rw [if_pos r4, y4, if_pos (Int.le_refl _), if_pos (by decide), if_pos (Int.le_refl _)]
    rw [e176]
    unfold f_M_judge_212
    rw [if_pos r2]
    rcases h2 with y2 | y2
    · refine ⟨F, ?_, fun _ => rfl, fun _ _ => rfl, fun _ h => ?_⟩
      · rw [y2, if_pos (Int.le_refl _), e239 F op hw hop]
        unfold opN
        rw [if_pos y2, if_pos y2, if_pos y4]
      · rcases h with h | h
        · exact absurd y4 h.1
        · exact absurd y2 h.1
    · have ex : opN a op = 1 := by unfold opN; rw [if_neg (by first | decide | omega)]
      have n2 : ¬ zand a 2 = 0 := by omega
      rcases hop with rfl | rfl
      · refine ⟨F, ?_, fun _ => rfl, fun _ _ => rfl, fun _ h => ?_⟩
        · rw [if_neg (by first | decide | omega), if_pos (by decide), if_pos rfl, e239 F 0 hw (Or.inl rfl), if_neg n2, ex]
        · rcases h with h | h
          · exact absurd y4 h.1
          · exact absurd rfl h.2.1
      · rw [if_neg (by first | decide | omega), if_pos (by decide), if_neg (by decide), hw, if_pos w0, if_pos hx, fl F hb, zb_s, e239 _ 1 (by split; rw [flM_n (by decide)]; exact hw; exact hw) (Or.inr rfl), if_neg n2, ex]
        refine ⟨_, rfl, fun h => if_neg (nb h), fun _ h => absurd (Or.inr ⟨n2, by decide, y4⟩) h, fun h _ => if_pos h⟩
  · have n4 : ¬ zand a 4 = 0 := by omega
    -- a slur closes
    have e203 : ∀ G : zF, G 14 0 6 = w → f_M_judge_203 rec K a x i op l1 G B = rec (i + 1) (opN a op) l1 G (zup4 B 13 w 27 x (opN a op)) := fun G hG => by
      unfold f_M_judge_203 f_M_judge_212
      rw [if_pos r4, if_neg (by first | decide | omega), if_pos r2]
      rcases h2 with y2 | y2
      · rw [if_pos (by first | decide | omega), e239 G 0 hG (Or.inl rfl)]
        unfold opN
        rw [if_pos y2, if_pos y2, if_neg n4]
      · rw [if_neg (by first | decide | omega), if_pos (by decide), if_pos rfl, e239 G 0 hG (Or.inl rfl)]
        unfold opN
        rw [if_neg (by first | decide | omega), if_neg (by first | decide | omega)]
    unfold f_M_judge_176
    rw [if_pos r4, if_neg (by first | decide | omega), if_pos ro]
    rcases hop with rfl | rfl
    · rw [if_pos rfl, hw, if_pos w0, if_pos hx, fl F hb, zb_s, e203 _ (by split; rw [flM_n (by decide)]; exact hw; exact hw)]
      exact ⟨_, rfl, fun h => if_neg (nb h), fun _ h => absurd (Or.inl ⟨n4, rfl⟩) h, fun h _ => if_pos h⟩
    · rw [if_neg (by decide), e203 F hw]
      refine ⟨F, rfl, fun _ => rfl, fun _ _ => rfl, fun _ h => ?_⟩
      rcases h with h | h
      · exact absurd h.2 (by decide)
      · exact absurd h.2.2 n4
theorem L_48X {K n : Nat} {i op l1 v : Int} {F : zF} {B : zB} (hb : bad F) (hop : op = 0 ∨ op = 1) (ri : r32 i) (r36 : r32 (F 14 0 36)) (h35 : F 14 0 35 = v) (v0 : 0 ≤ v ∧ v < 4) : f_M_judge_48 K (n + 1) i op l1 F B = some (0, F, B) := by
  have e265 : f_M_judge_265 K op F B = some (0, F, B) := by
    have e284 : f_M_judge_284 K F B = some (0, F, B) := by
      unfold f_M_judge_284 f_M_judge_325
      rw [L_goodB hb, zb_s, if_pos (by decide), if_pos rfl]
    unfold f_M_judge_265
    rcases hop with rfl | rfl
    · rw [if_pos (by decide), if_pos rfl, e284]
    · rw [if_pos (by decide), if_neg (by decide), h35, if_pos v0, L_failAtB hb, zb_s, e284]
  rw [joS_e, if_pos ri, if_pos r36]
  by_cases c : F 14 0 36 ≤ i
  · rw [if_pos c, e265]
  · rw [if_neg c, L_goodB hb, zb_s, if_pos (by decide), if_pos rfl, e265]
/-- the class's part of the step behind the tie -/
theorem C_95 {K : zK} {rec : Int → Int → Int → Int → zF → zB → zO} {e i op q p : Int} {F : zF} {B : zB} (he : 0 ≤ e ∧ e < K.2 1) (a0 : 0 ≤ F 1 e 7) (a1 : F 1 e 7 < 128) (hop : op = 0 ∨ op = 1) : (¬ slX (F 1 e 7) op → f_Part_judge_95 rec K e i op q p F B = rec (i + 1) (opN (F 1 e 7) op) q p (zup3 F 1 e 11 (opN (F 1 e 7) op)) B) ∧ (slX (F 1 e 7) op → f_Part_judge_95 rec K e i op q p F B = some (11 + 16 * F 1 e 9, F, B)) := by
  obtain ⟨_, h2, h4⟩ := mkb_i a0 a1
  unfold f_Part_judge_95 f_Part_judge_112 f_Part_judge_113 f_Part_judge_128 f_Part_judge_154 f_Part_judge_168 f_Part_judge_173 f_Part_judge_142
  simp only [C_has he, zb_s, if_pos he]
  generalize F 1 e 7 = a at *
  have n24 : ¬ (2 : Int) = 0 := by decide
  have n44 : ¬ (4 : Int) = 0 := by decide
  have n1 : ¬ (1 : Int) = 0 := by decide
  have r0 : r32 0 := by decide
  have r1 : r32 1 := by decide
  rcases hop with rfl | rfl
  · rcases h4 with y4 | y4
    · rcases h2 with y2 | y2
      · have sx : ¬ slX a 0 := fun h => by rcases h with h | h; exact h.1 y4; exact h.1 y2
        have ox : opN a 0 = 0 := by unfold opN; rw [if_pos y2, if_pos y4]
        refine ⟨fun _ => ?_, fun h => absurd h sx⟩
        rw [ox, y4, y2]
        simp
        simp only [if_pos r0, if_pos r1]
      · have sx : ¬ slX a 0 := fun h => by rcases h with h | h; exact h.1 y4; exact h.2.1 rfl
        have ox : opN a 0 = 1 := by unfold opN; rw [if_neg (by first | decide | omega)]
        refine ⟨fun _ => ?_, fun h => absurd h sx⟩
        rw [ox, y4, y2]
        simp
        simp only [if_pos r0, if_pos r1]
    · have sx : slX a 0 := Or.inl ⟨(by first | decide | omega), rfl⟩
      refine ⟨fun h => absurd sx h, fun _ => ?_⟩
      rw [y4]
      simp
      decide
  · rcases h4 with y4 | y4
    · rcases h2 with y2 | y2
      · have sx : ¬ slX a 1 := fun h => by rcases h with h | h; exact h.1 y4; exact h.1 y2
        have ox : opN a 1 = 1 := by unfold opN; rw [if_pos y2, if_pos y4]
        refine ⟨fun _ => ?_, fun h => absurd h sx⟩
        rw [ox, y4, y2]
        simp
        simp only [if_pos r0, if_pos r1]
      · have sx : slX a 1 := Or.inr ⟨(by first | decide | omega), by decide, y4⟩
        refine ⟨fun h => absurd sx h, fun _ => ?_⟩
        rw [y4, y2]
        simp
        decide
    · have n4 : ¬ zand a 4 = 0 := by omega
      rcases h2 with y2 | y2
      · have sx : ¬ slX a 1 := fun h => by rcases h with h | h; exact absurd h.2 (by decide); exact n4 h.2.2
        have ox : opN a 1 = 0 := by unfold opN; rw [if_pos y2, if_neg n4]
        refine ⟨fun _ => ?_, fun h => absurd h sx⟩
        rw [ox, y4, y2]
        simp
        simp only [if_pos r0, if_pos r1]
      · have sx : ¬ slX a 1 := fun h => by rcases h with h | h; exact absurd h.2 (by decide); exact n4 h.2.2
        have ox : opN a 1 = 1 := by unfold opN; rw [if_neg (by first | decide | omega)]
        refine ⟨fun _ => ?_, fun h => absurd h sx⟩
        rw [ox, y4, y2]
        simp
        simp only [if_pos r0, if_pos r1]
end
end
section
section
/-! ===== a voice's events judged in turn, both sides ===== -/
theorem JS_f {K : zK} {q v w bar : Int} {m : Nat} {g : Int → Int} {F F' : zF} {B : zB} {Fm Fm' : zF} {Bm Bm' : zB} (h : JS K q v w m bar g F B Fm Bm) (f4 : F' 4 q 6 = F 4 q 6) (f1 : ∀ y k, k ≤ 10 → F' 1 y k = F 1 y k) (g36 : Fm' 14 0 36 = Fm 14 0 36) (g35 : Fm' 14 0 35 = Fm 14 0 35) (g6 : Fm' 14 0 6 = Fm 14 0 6) (mB : ∀ k x, ¬ k = 27 → Bm' 13 w k x = Bm 13 w k x) (m8 : ∀ y, Bm' 14 0 8 y = Bm 14 0 8 y) : JS K q v w m bar g F' B Fm' Bm' := by
  obtain ⟨a, b, c, d, e⟩ := h
  refine ⟨by rw [f4, g36, g35, g6]; exact a, b, c, fun i hi => ?_, e⟩
  obtain ⟨d1, d2, d3, d4, d5⟩ := d i hi
  rw [f1 _ 0 (by decide), f1 _ 1 (by decide), mB 14 _ (by decide), mB 15 _ (by decide)]
  exact ⟨EVW_h d1 (fun k _ h => f1 _ k h) (fun _ _ => rfl) (fun k _ h => mB k _ (by first | decide | omega)) (fun k y h _ _ _ => mB k y (by first | decide | omega)) m8, d2, d3, d4, d5⟩
/-- what judging changes -/
def JFr (q v w : Int) (m : Nat) (B : zB) (F : zF) (Fm : zF) (Bm : zB) (F' : zF) (Fm' : zF) (Bm' : zB) : Prop := (∀ c y k, ¬ (c = 1 ∧ k = 11 ∧ ∃ j : Int, 0 ≤ j ∧ j < m ∧ B 4 q 5 j = y) → F' c y k = F c y k) ∧ (∀ c y k, ¬ (c = 14 ∧ y = 0 ∧ (k ≤ 1 ∨ k = 17 ∨ k = 18)) → Fm' c y k = Fm c y k) ∧ (∀ c y k x, ¬ (c = 13 ∧ y = w ∧ k = 27 ∧ 1000 * v ≤ x ∧ x < 1000 * v + m) → Bm' c y k x = Bm c y k x)
theorem JFr_r {q v w : Int} {m : Nat} {B : zB} {F : zF} {Fm : zF} {Bm : zB} : JFr q v w m B F Fm Bm F Fm Bm := ⟨fun _ _ _ _ => rfl, fun _ _ _ _ => rfl, fun _ _ _ _ _ => rfl⟩
theorem JFr_t {q v w : Int} {m : Nat} {B : zB} {F F1 F2 : zF} {Fm Fm1 Fm2 : zF} {Bm Bm1 Bm2 : zB} (h : JFr q v w m B F Fm Bm F1 Fm1 Bm1) (h' : JFr q v w m B F1 Fm1 Bm1 F2 Fm2 Bm2) : JFr q v w m B F Fm Bm F2 Fm2 Bm2 := ⟨fun c y k n => by rw [h'.1 c y k n, h.1 c y k n], fun c y k n => by rw [h'.2.1 c y k n, h.2.1 c y k n], fun c y k x n => by rw [h'.2.2 c y k x n, h.2.2 c y k x n]⟩
def SLs (q v w : Int) (i : Nat) (B : zB) (F : zF) (Bm : zB) : Prop := ∀ j : Nat, j < i → F 1 (B 4 q 5 j) 11 = Bm 13 w 27 (1000 * v + j) ∧ (F 1 (B 4 q 5 j) 11 = 0 ∨ F 1 (B 4 q 5 j) 11 = 1)
/-- a tie has an event behind it -/
def TIk (q : Int) (m : Nat) (F : zF) (B : zB) (i : Nat) : Prop := zand (F 1 (B 4 q 5 i) 7) 1 ≤ 0 ∨ i + 1 < m
theorem L_176X {K n m i : Nat} {a op v w : Int} {F : zF} {B : zB} (a0 : 0 ≤ a) (a1 : a < 128) (hop : op = 0 ∨ op = 1) (hw : F 14 0 6 = w) (w0 : 0 ≤ w ∧ w < 3) (hi : i < m) (m1 : m ≤ 200) (h35 : F 14 0 35 = v) (v0 : 0 ≤ v ∧ v < 4) (h36 : F 14 0 36 = m) (h20 : 0 ≤ B 13 w 20 (1000 * v + i) ∧ B 13 w 20 (1000 * v + i) ≤ 3000) (hb : bad F) : ∃ B', f_M_judge_176 (f_M_judge_48 K (n + 1)) K a (1000 * v + i) i op (1000 * v) F B = some (0, F, B') ∧ (∀ c y k x, ¬ (c = 13 ∧ y = w ∧ k = 27 ∧ 1000 * v ≤ x ∧ x < 1000 * v + m) → B' c y k x = B c y k x) := by
  obtain ⟨G, e, g1, _⟩ := L_176 (K := K) (rec := f_M_judge_48 K (n + 1)) (i := i) (l1 := 1000 * v) a0 a1 hop hw w0 (x := 1000 * v + i) (by first | decide | omega) h20 (Or.inr hb)
  rw [g1 hb] at e
  refine ⟨_, by rw [e]; exact L_48X hb (opN_b hop) (by unfold r32; omega) (by rw [h36]; unfold r32; omega) h35 v0, fun c y k x h => by rw [zup4_v, if_neg (by first | decide | omega)]⟩
theorem P_jl {K : zK} {Km m : Nat} {q p v w n d : Int} {g : Int → Int} {B : zB} {F0 : zF} {Fm0 : zF} {Bm0 : zB} {Q : Int → zF → zB → Int → zF → zB → Prop} (hK : 3002 ≤ K.1) (hKm : 812851200 < Km) (h4 : 0 ≤ q ∧ q < K.2 4) (hp : 0 ≤ p ∧ p < K.2 6) (v0 : 0 ≤ v ∧ v < 4) (w0 : 0 ≤ w ∧ w < 3) (hn : 1 ≤ n ∧ n ≤ 12) (hd : d = 2 ∨ d = 4 ∨ d = 8 ∨ d = 16) (e4 : F0 6 p 4 = n) (e5 : F0 6 p 5 = d) (m4 : Fm0 13 w 4 = n) (m5 : Fm0 13 w 5 = d) (hI : inJ q B)
  (hEnd : ∀ (n1 n2 : Nat) op F Fm Bm, op = 0 ∨ op = 1 → JS K q v w m (barV n d) g F B Fm Bm → Fm 14 0 17 = 0 → JFr q v w m B F0 Fm0 Bm0 F Fm Bm → SLs q v w m B F Bm → (∀ i : Nat, i < m → BSk q m (barV n d) g F B i ∧ TIk q m F B i) → zP (f_Part_judge_26 K (n1 + 1) m op q p F B) (f_M_judge_48 Km (n2 + 1) m op (1000 * v) Fm Bm) Q)
  (hX : ∀ r F r' Fm Bm, JFr q v w m B F0 Fm0 Bm0 F Fm Bm → bad Fm → r = Fm 14 0 17 + 16 * Fm 14 0 18 → 0 ≤ Fm 14 0 18 ∧ Fm 14 0 18 ≤ 3000 → Q r F B r' Fm Bm) : ∀ (r n1 n2 i : Nat) {op : Int} {F : zF} {Fm : zF} {Bm : zB}, i + r = m → r + 1 < n1 → r + 1 < n2 → op = 0 ∨ op = 1 → JS K q v w m (barV n d) g F B Fm Bm → Fm 14 0 17 = 0 → JFr q v w m B F0 Fm0 Bm0 F Fm Bm → SLs q v w i B F Bm → (∀ t : Nat, t < i → BSk q m (barV n d) g F B t ∧ TIk q m F B t) → zP (f_Part_judge_26 K n1 i op q p F B) (f_M_judge_48 Km n2 i op (1000 * v) Fm Bm) Q := by
  intro r
  induction r with
  | zero =>
    intro n1 n2 i op F Fm Bm ir hn1 hn2 hop hJ h17 hf hsl hbs
    obtain ⟨n1, rfl⟩ : ∃ k, n1 = k + 1 := ⟨n1 - 1, (by first | decide | omega)⟩
    obtain ⟨n2, rfl⟩ : ∃ k, n2 = k + 1 := ⟨n2 - 1, (by first | decide | omega)⟩
    obtain rfl : i = m := by omega
    exact hEnd n1 n2 op F Fm Bm hop hJ h17 hf hsl hbs
  | succ r ih =>
    intro n1 n2 i op F Fm Bm ir hn1 hn2 hop hJ h17 hf hsl hbs
    obtain ⟨n1, rfl⟩ : ∃ k, n1 = k + 1 := ⟨n1 - 1, (by first | decide | omega)⟩
    obtain ⟨n2, rfl⟩ : ∃ k, n2 = k + 1 + 1 := ⟨n2 - 2, (by first | decide | omega)⟩
    have hi : i < m := by omega
    have c4 : F 6 p 4 = n := by rw [hf.1 6 p 4 (by first | decide | omega)]; exact e4
    have c5 : F 6 p 5 = d := by rw [hf.1 6 p 5 (by first | decide | omega)]; exact e5
    have d4 : Fm 13 w 4 = n := by rw [hf.2.1 13 w 4 (by first | decide | omega)]; exact m4
    have d5 : Fm 13 w 5 = d := by rw [hf.2.1 13 w 5 (by first | decide | omega)]; exact m5
    obtain ⟨b, G, bs, gn, hh⟩ := P_outer (rec := f_M_judge_48 Km (n2 + 1)) (op := op) hK hKm h4 v0 w0 hn hd d4 d5 hJ h17 hi
    have hJ' := hJ
    obtain ⟨⟨c6, c36, c35, cw, mm0, mm1⟩, hg, hs, he, hV⟩ := hJ
    obtain ⟨ei, p0, p14, p15, pg⟩ := he i hi
    have hie := hV i (by first | decide | omega) (by first | decide | omega)
    have ri : r32 (i : Int) := by unfold r32; omega
    have rm : r32 (m : Int) := by unfold r32; omega
    have e7 := ei.2.2.2.2.2.2.2.2.1
    have e9 := ei.2.2.2.2.2.2.2.2.2.2.1
    have a0 := e7.2.1
    have a1 := e7.2.2
    have h20 : 0 ≤ Bm 13 w 20 (1000 * v + i) ∧ Bm 13 w 20 (1000 * v + i) ≤ 3000 := ⟨e9.2.1, e9.2.2.1⟩
    have p20 : 0 ≤ Bm 14 0 8 (Bm 13 w 20 (1000 * v + i)) ∧ Bm 14 0 8 (Bm 13 w 20 (1000 * v + i)) ≤ 3000 := by rw [← e9.1]; exact e9.2.2.2
    have gf : JFr q v w m B F Fm Bm F G Bm := ⟨fun _ _ _ _ => rfl, fun c y k h => gn c y k (by first | decide | omega), fun _ _ _ _ _ => rfl⟩
    have g17 : G 14 0 17 = 0 := by rw [gn _ _ _ (by first | decide | omega)]; exact h17
    have g6 : G 14 0 6 = w := by rw [gn _ _ _ (by first | decide | omega)]; exact cw
    have g35 : G 14 0 35 = v := by rw [gn _ _ _ (by first | decide | omega)]; exact c35
    have g36 : G 14 0 36 = m := by rw [gn _ _ _ (by first | decide | omega)]; exact c36
    have hx : 0 ≤ 1000 * v + (i : Int) ∧ 1000 * v + (i : Int) < 4000 := by omega
    -- a fault told: what is left comes to nothing
    have fl : ∀ (s t : Int) (Bm' : zB) (r : Int), 1 ≤ s → s ≤ 15 → 0 ≤ Bm 14 0 8 t ∧ Bm 14 0 8 t ≤ 3000 → r = s + 16 * Bm 14 0 8 t → (∀ c y k x, ¬ (c = 13 ∧ y = w ∧ k = 27 ∧ 1000 * v ≤ x ∧ x < 1000 * v + m) → Bm' c y k x = Bm c y k x) → zP (some (r, F, B)) (some (0, flM G Bm s t, Bm')) Q := fun s t Bm' r s0 s1 t0 e hB => by
      refine zP_s (hX r F 0 (flM G Bm s t) Bm' (JFr_t hf ⟨fun _ _ _ _ => rfl, fun c y k h => by rw [flM_n (by first | decide | omega), gn c y k (by first | decide | omega)], hB⟩) (flM_b s0 s1) (by rw [flM_17, flM_18]; exact e) (by rw [flM_18]; exact t0))
    have flw : ∀ s t, flM G Bm s t 14 0 6 = w ∧ flM G Bm s t 14 0 35 = v ∧ flM G Bm s t 14 0 36 = m := fun s t => by rw [flM_n (by decide), flM_n (by decide), flM_n (by decide)]; exact ⟨g6, g35, g36⟩
    rw [f_Part_judge_26, if_pos h4, if_pos ri, c6, if_pos rm, if_neg (by first | decide | omega), if_pos (by first | decide | omega), if_pos hp, C_bar hp c4 c5 hn hd, zb_s, bs, zb_s, joS_e, if_pos ri, c36, if_pos rm, if_neg (show ¬ (m : Int) ≤ (i : Int) by omega), L_good h17, zb_s, if_pos (show r32 1 by decide), if_neg (show ¬ (1 : Int) = 0 by decide)]
    rcases hh with ⟨rfl, hm, hbk⟩ | ⟨rfl, hm, h6, h26, h6b⟩
    case inr =>
      rw [if_pos (show r32 0 by decide), if_pos (show (0 : Int) = 0 from rfl), if_pos hie, hm]
      have bd : bad (flM G Bm 13 (Bm 13 w 26 (1000 * v + i))) := flM_b (by decide) (by decide)
      obtain ⟨w6, w35, w36⟩ := flw 13 (Bm 13 w 26 (1000 * v + i))
      obtain ⟨Bm', t1, t2⟩ := L_176X (K := Km) (n := n2) (op := op) a0 a1 hop w6 w0 hi mm1 w35 v0 w36 (B := Bm) h20 bd
      have e115 : f_M_judge_115 (f_M_judge_48 Km (n2 + 1)) Km (1000 * v + i) i op (1000 * v) (flM G Bm 13 (Bm 13 w 26 (1000 * v + i))) Bm = some (0, flM G Bm 13 (Bm 13 w 26 (1000 * v + i)), Bm') := by
        unfold f_M_judge_115 f_M_judge_160
        obtain ⟨y1, _, _⟩ := mkb_i a0 a1
        rw [w6, if_pos w0, if_pos hx, ← e7.1, if_pos (show r32 (zand (F 1 (B 4 q 5 i) 7) 1) by unfold r32; omega)]
        rcases y1 with y1 | y1
        · rw [if_pos (by first | decide | omega), t1]
        · rw [if_neg (by first | decide | omega), if_pos (show r32 ((i : Int) + 1) by unfold r32; omega), w36, if_pos rm, if_pos w0, if_pos hx, L_failAtB bd, zb_s]
          by_cases z : (i : Int) + 1 = m
          · rw [if_pos z, t1]
          · rw [if_neg z]
            have hne := hV ((i + 1 : Nat) : Int) (by first | decide | omega) (by first | decide | omega)
            have en := (he (i + 1) (by first | decide | omega)).1
            have sh := (P_share (Km := Km) (Fm := flM G Bm 13 (Bm 13 w 26 (1000 * v + i))) hK (by first | decide | omega) w0 hie hne hx (y := 1000 * v + ((i + 1 : Nat) : Int)) (by first | decide | omega) ei en).2
            rw [show 1000 * v + (i : Int) + 1 = 1000 * v + ((i + 1 : Nat) : Int) by omega, sh, zb_s]
            by_cases y : shM (shB (B 4 q 5 i) (B 4 q 5 ((i + 1 : Nat) : Int)) (F 1 (B 4 q 5 ((i + 1 : Nat) : Int)) 10) B) (F 1 (B 4 q 5 i) 10).toNat = 0
            · rw [if_pos y, if_pos (show r32 0 by decide), if_pos (show (0 : Int) = 0 from rfl), w6, if_pos w0, if_pos hx, L_failAtB bd, zb_s, t1]
            · rw [if_neg y, if_pos (show r32 1 by decide), if_neg (show ¬ (1 : Int) = 0 by decide), t1]
      rw [e115]
      exact fl 13 _ Bm' _ (by decide) (by decide) (by rw [← h6]; exact h6b) (by rw [h6]) t2
    case inl =>
      rw [if_pos (show r32 1 by decide), if_neg (show ¬ (1 : Int) = 0 by decide), if_pos hie, hm]
      -- behind the tie
      have tail : TIk q m F B i → zP (f_Part_judge_95 (f_Part_judge_26 K n1) K (B 4 q 5 i) i op q p F B) (f_M_judge_176 (f_M_judge_48 Km (n2 + 1)) Km (F 1 (B 4 q 5 i) 7) (1000 * v + i) i op (1000 * v) G Bm) Q := by
        intro hti
        obtain ⟨c1, c2⟩ := C_95 (K := K) (rec := f_Part_judge_26 K n1) (i := i) (op := op) (q := q) (p := p) (B := B) hie a0 a1 hop
        obtain ⟨G', e, _, k1, k2⟩ := L_176 (K := Km) (rec := f_M_judge_48 Km (n2 + 1)) (i := i) (l1 := 1000 * v) (op := op) a0 a1 hop g6 w0 hx (B := Bm) h20 (Or.inl g17)
        by_cases sx : slX (F 1 (B 4 q 5 i) 7) op
        · rw [c2 sx, e, k2 g17 sx, L_48X (flM_b (by decide) (by decide)) (opN_b hop) (by unfold r32; omega) (by rw [(flw _ _).2.2]; exact rm) (flw _ _).2.1 v0]
          exact fl 11 _ _ _ (by decide) (by decide) p20 (by rw [e9.1]) (fun c y k x h => by rw [zup4_v, if_neg (by first | decide | omega)])
        · rw [c1 sx, e, k1 g17 sx]
          have own : ∃ j : Int, 0 ≤ j ∧ j < m ∧ B 4 q 5 j = B 4 q 5 i := ⟨i, (by first | decide | omega), (by first | decide | omega), rfl⟩
          have fr2 : JFr q v w m B F G Bm (zup3 F 1 (B 4 q 5 i) 11 (opN (F 1 (B 4 q 5 i) 7) op)) G (zup4 Bm 13 w 27 (1000 * v + i) (opN (F 1 (B 4 q 5 i) 7) op)) := ⟨fun c y k h => by rw [zup3_v, if_neg (fun z => h ⟨z.1, z.2.2, by rw [z.2.1]; exact own⟩)], fun _ _ _ _ => rfl, fun c y k x h => by rw [zup4_v, if_neg (by first | decide | omega)]⟩
          have ih' := ih n1 (n2 + 1) (i + 1) (op := opN (F 1 (B 4 q 5 i) 7) op) (F := zup3 F 1 (B 4 q 5 i) 11 (opN (F 1 (B 4 q 5 i) 7) op)) (Fm := G) (Bm := zup4 Bm 13 w 27 (1000 * v + i) (opN (F 1 (B 4 q 5 i) 7) op)) (by first | decide | omega) (by first | decide | omega) (by first | decide | omega) (opN_b hop) (JS_f hJ' (by rw [zup3_v, if_neg (by first | decide | omega)]) (fun y k h => by rw [zup3_v, if_neg (by first | decide | omega)]) (by rw [g36, c36]) (by rw [g35, c35]) (by rw [g6, cw]) (fun k x h => by rw [zup4_v, if_neg (by first | decide | omega)]) (fun y => by rw [zup4_v, if_neg (by first | decide | omega)])) g17 (JFr_t hf (JFr_t gf fr2)) (fun j hj => by
            by_cases z : j = i
            · rw [z, zup3_v, if_pos (by first | decide | omega), zup4_v, if_pos (by first | decide | omega)]
              exact ⟨rfl, opN_b hop⟩
            · have ne : ¬ B 4 q 5 j = B 4 q 5 i := fun y => by
                have := hI j i (by first | decide | omega) (by first | decide | omega) (by first | decide | omega) (by first | decide | omega) y
                omega
              rw [zup3_v, if_neg (fun y => ne y.2.1), zup4_v, if_neg (by first | decide | omega)]
              exact hsl j (by first | decide | omega)) (fun t ht => by
            refine ⟨BSk_f (F := F) ?_ (fun y => by rw [zup3_v, if_neg (by first | decide | omega)]), ?_⟩
            · by_cases z : t = i
              · rw [z]; exact hbk
              · exact (hbs t (by first | decide | omega)).1
            · unfold TIk
              rw [zup3_v, if_neg (by first | decide | omega)]
              by_cases z : t = i
              · rw [z]; exact hti
              · exact (hbs t (by first | decide | omega)).2)
          rw [show ((i + 1 : Nat) : Int) = (i : Int) + 1 by omega] at ih'
          exact ih'
      -- a tie that holds nothing
      have tieX : zP (some (10 + 16 * F 1 (B 4 q 5 i) 9, F, B)) (f_M_judge_160 (f_M_judge_48 Km (n2 + 1)) Km (F 1 (B 4 q 5 i) 7) (1000 * v + i) i op (1000 * v) G Bm) Q := by
        obtain ⟨w6, w35, w36⟩ := flw 10 (Bm 13 w 20 (1000 * v + i))
        obtain ⟨Bm', t1, t2⟩ := L_176X (K := Km) (n := n2) (op := op) a0 a1 hop w6 w0 hi mm1 w35 v0 w36 (B := Bm) h20 (flM_b (by decide) (by decide))
        unfold f_M_judge_160
        rw [g6, if_pos w0, if_pos hx, L_failAt g17 (by first | decide | omega), zb_s, t1]
        exact fl 10 _ Bm' _ (by decide) (by decide) p20 (by rw [e9.1]) t2
      rw [C_has hie, zb_s]
      unfold f_M_judge_115
      obtain ⟨y1, _, _⟩ := mkb_i a0 a1
      rw [g6, if_pos w0, if_pos hx, ← e7.1, if_pos (show r32 (zand (F 1 (B 4 q 5 i) 7) 1) by unfold r32; omega)]
      rcases y1 with y1 | y1
      · rw [if_pos y1, if_pos (show r32 0 by decide), if_pos (show (0 : Int) = 0 from rfl), if_pos (show zand (F 1 (B 4 q 5 i) 7) 1 ≤ 0 by omega)]
        exact tail (Or.inl (by first | decide | omega))
      · rw [if_neg (show ¬ zand (F 1 (B 4 q 5 i) 7) 1 = 0 by omega), if_pos (show r32 1 by decide), if_neg (show ¬ (1 : Int) = 0 by decide), if_neg (show ¬ zand (F 1 (B 4 q 5 i) 7) 1 ≤ 0 by omega), if_pos (show r32 ((i : Int) + 1) by unfold r32; omega), g36, if_pos rm]
        unfold f_Part_tiedPitches f_Part_tiedPitches_27
        rw [if_pos ri, if_neg (show ¬ (i : Int) < 0 by omega), if_pos h4, if_pos (show r32 ((i : Int) + 1) by unfold r32; omega), c6, if_pos rm]
        by_cases z : (i : Int) + 1 = m
        · rw [if_pos (show (m : Int) ≤ (i : Int) + 1 by omega), zb_s, if_pos (show r32 0 by decide), if_pos (show (0 : Int) = 0 from rfl), if_pos z]
          exact tieX
        · have hne := hV ((i + 1 : Nat) : Int) (by first | decide | omega) (by first | decide | omega)
          have en := (he (i + 1) (by first | decide | omega)).1
          obtain ⟨sc, sm⟩ := P_share (Km := Km) (Fm := G) hK (show 3002 ≤ Km by omega) w0 hie hne hx (y := 1000 * v + ((i + 1 : Nat) : Int)) (by first | decide | omega) ei en
          have sb := shM_b (h := shB (B 4 q 5 i) (B 4 q 5 ((i + 1 : Nat) : Int)) (F 1 (B 4 q 5 ((i + 1 : Nat) : Int)) 10) B) (F 1 (B 4 q 5 i) 10).toNat
          have c10 := ei.2.2.2.2.2.2.2.2.2.2.2.2.2.1
          have p64 : (2 : Int) ^ (F 1 (B 4 q 5 i) 10).toNat ≤ 64 := by
            obtain ⟨k, hk⟩ : ∃ k : Nat, F 1 (B 4 q 5 i) 10 = k := ⟨(F 1 (B 4 q 5 i) 10).toNat, (by first | decide | omega)⟩
            have : k = 0 ∨ k = 1 ∨ k = 2 ∨ k = 3 ∨ k = 4 ∨ k = 5 ∨ k = 6 := by omega
            rw [hk]
            rcases this with rfl | rfl | rfl | rfl | rfl | rfl | rfl <;> decide
          rw [if_neg (show ¬ (m : Int) ≤ (i : Int) + 1 by omega), if_pos (show 0 ≤ (i : Int) ∧ (i : Int) < 200 by omega), if_pos hie, C_has hie, zb_s, if_neg (show ¬ zand (F 1 (B 4 q 5 i) 7) 1 = 0 by omega), if_pos (show r32 1 by decide), if_neg (show ¬ (1 : Int) = 0 by decide), if_pos (show 0 ≤ (i : Int) + 1 ∧ (i : Int) + 1 < 200 by omega), if_pos hie, show (i : Int) + 1 = ((i + 1 : Nat) : Int) by omega, if_pos hne, sc, zb_s, zb_s, if_neg (show ¬ ((i + 1 : Nat) : Int) = m by omega), show 1000 * v + (i : Int) + 1 = 1000 * v + ((i + 1 : Nat) : Int) by omega, sm, zb_s]
          generalize shM (shB (B 4 q 5 i) (B 4 q 5 ((i + 1 : Nat) : Int)) (F 1 (B 4 q 5 ((i + 1 : Nat) : Int)) 10) B) (F 1 (B 4 q 5 i) 10).toNat = sv at sb
          rw [if_pos (show r32 sv by unfold r32; omega)]
          by_cases y : sv = 0
          · rw [if_pos y, if_pos y, if_pos (show r32 0 by decide), if_pos (show (0 : Int) = 0 from rfl)]
            exact tieX
          · rw [if_neg y, if_neg y, if_pos (show r32 1 by decide), if_neg (show ¬ (1 : Int) = 0 by decide)]
            exact tail (Or.inr (by first | decide | omega))
end
end
section
section
/-! ===== values of notes: strengths and choice, as the class has them ===== -/
/-- the value k in parts of 512 of a whole -/
def fv (k : Int) : Int := (512 / 2 ^ (k / 3).toNat) * (if k % 3 = 0 then 7 else if k % 3 = 1 then 6 else 4) / 4
def bc (n d : Int) : Int := if 8 ≤ d ∧ n % 3 = 0 then 3 else if d ≤ 4 then 1 else 2
def st5 (u a : Int) : Int := if a % u = 0 then 6 else if a % (u / 2) = 0 then 5 else if a % (u / 4) = 0 then 4 else if a % (u / 8) = 0 then 3 else if a % (u / 16) = 0 then 2 else 1
/-- the strength of the place a -/
def st (n d a : Int) : Int := if a = 0 ∨ a = 512 / d * n then 9 else if n % 2 = 0 ∧ 2 * a = 512 / d * n then 8 else if a % (512 / d * bc n d) = 0 then 7 else st5 (512 / d) a
abbrev bw (p f t : Int) : Prop := (f / p + 1) * p < t
def bt5 (u f t : Int) : Int := if bw u f t then 6 else if bw (u / 2) f t then 5 else if bw (u / 4) f t then 4 else if bw (u / 8) f t then 3 else if bw (u / 16) f t then 2 else 1
/-- the greatest strength between f and t -/
def bt (n d f t : Int) : Int := if n % 2 = 0 ∧ 2 * f < 512 / d * n ∧ 512 / d * n < 2 * t then 8 else if bw (512 / d * bc n d) f t then 7 else bt5 (512 / d) f t
def mx (a b : Int) : Int := if a ≤ b then b else a
abbrev stnd (n d f k : Int) : Prop := bt n d f (f + fv k) ≤ mx (st n d f) (st n d (f + fv k))
/-- the first of m from k on for which P holds -/
def fsN (P : Int → Bool) : Nat → Int → Int
  | 0, _ => -1
  | m + 1, k => if P k = true then k else fsN P m (k + 1)
def gvF (l : Int) : Int := if fsN (fun k => decide (fv k ≤ l)) 24 0 < 0 then 23 else fsN (fun k => decide (fv k ≤ l)) 24 0
def nvF (n d f l : Int) : Int := if fsN (fun k => decide (fv k ≤ l ∧ stnd n d f k)) 24 0 < 0 then gvF l else fsN (fun k => decide (fv k ≤ l ∧ stnd n d f k)) 24 0
theorem fv_f : ∀ k : Fin 24, (0 ≤ 2 - zrm (k.val : Int) 3 ∧ 2 - zrm (k.val : Int) 3 < ztl 4) ∧ zdv ((zshr 512 (zdv (k.val : Int) 3)) * (ztv 4 (2 - zrm (k.val : Int) 3))) 4 = fv (k.val : Int) ∧ 4 ≤ fv (k.val : Int) ∧ fv (k.val : Int) ≤ 896 := by decide +kernel
theorem C_fine {K : zK} {k : Int} {F : zF} {B : zB} (h0 : 0 ≤ k) (h1 : k < 24) : f_S_fineValue K k F B = some (fv k, F, B) := by
  have h := fv_f ⟨k.toNat, (by first | decide | omega)⟩
  rw [show (((⟨k.toNat, (by first | decide | omega)⟩ : Fin 24).val : Nat) : Int) = k by show ((k.toNat : Nat) : Int) = k; omega] at h
  unfold f_S_fineValue
  rw [if_pos h.1, h.2.1]
theorem fv_b {k : Int} (h0 : 0 ≤ k) (h1 : k < 24) : 4 ≤ fv k ∧ fv k ≤ 896 := by
  have h := fv_f ⟨k.toNat, (by first | decide | omega)⟩
  rw [show (((⟨k.toNat, (by first | decide | omega)⟩ : Fin 24).val : Nat) : Int) = k by show ((k.toNat : Nat) : Int) = k; omega] at h
  exact h.2.2
theorem fsN_r {P : Int → Bool} : ∀ (m : Nat) {k : Int}, 0 ≤ k → fsN P m k = -1 ∨ (k ≤ fsN P m k ∧ fsN P m k < k + m ∧ P (fsN P m k) = true) := by
  intro m
  induction m with
  | zero => intro k _; exact Or.inl rfl
  | succ m ih =>
    intro k h0
    unfold fsN
    by_cases c : P k = true
    · rw [if_pos c]; exact Or.inr ⟨Int.le_refl _, (by first | decide | omega), c⟩
    · rw [if_neg c]
      rcases ih (k := k + 1) (by first | decide | omega) with h | ⟨h1, h2, h3⟩
      · exact Or.inl h
      · exact Or.inr ⟨(by first | decide | omega), (by first | decide | omega), h3⟩
theorem fsN_n {P : Int → Bool} : ∀ (m : Nat) {k : Int}, 0 ≤ k → ∀ j, k ≤ j → j < k + m → (j < fsN P m k ∨ fsN P m k < 0) → P j = false := by
  intro m
  induction m with
  | zero => intro k _ j a b; omega
  | succ m ih =>
    intro k h0 j a b c
    unfold fsN at c
    by_cases e : P k = true
    · rw [if_pos e] at c; omega
    · rw [if_neg e] at c
      by_cases z : j = k
      · rw [z]; cases h : P k with
        | true => exact absurd h e
        | false => rfl
      · exact ih (by first | decide | omega) j (by first | decide | omega) (by first | decide | omega) c
theorem gvF_b {l : Int} : 0 ≤ gvF l ∧ gvF l < 24 := by
  unfold gvF
  rcases fsN_r (P := fun k => decide (fv k ≤ l)) 24 (k := 0) (Int.le_refl _) with h | ⟨h1, h2, _⟩
  · rw [h, if_pos (by decide)]; decide
  · rw [if_neg (by first | decide | omega)]; omega
theorem nvF_b {n d f l : Int} : 0 ≤ nvF n d f l ∧ nvF n d f l < 24 := by
  unfold nvF
  rcases fsN_r (P := fun k => decide (fv k ≤ l ∧ stnd n d f k)) 24 (k := 0) (Int.le_refl _) with h | ⟨h1, h2, _⟩
  · rw [h, if_pos (by decide)]; exact gvF_b
  · rw [if_neg (by first | decide | omega)]; omega
theorem C_gv2 {K : zK} {l : Int} {F : zF} {B : zB} (rl : r32 l) : ∀ (d n : Nat) {k : Int}, 0 ≤ k → k + d = 24 → d < n → f_S_greatestValue_2 K n k l F B = some (if fsN (fun k => decide (fv k ≤ l)) d k < 0 then 23 else fsN (fun k => decide (fv k ≤ l)) d k, F, B) := by
  intro d
  induction d with
  | zero =>
    intro n k h0 hk hn
    obtain ⟨n, rfl⟩ : ∃ m, n = m + 1 := ⟨n - 1, (by first | decide | omega)⟩
    rw [f_S_greatestValue_2, if_pos (by unfold r32; omega), if_pos (by first | decide | omega)]
    rfl
  | succ d ih =>
    intro n k h0 hk hn
    obtain ⟨n, rfl⟩ : ∃ m, n = m + 1 := ⟨n - 1, (by first | decide | omega)⟩
    have b := fv_b (k := k) h0 (by first | decide | omega)
    rw [f_S_greatestValue_2, if_pos (by unfold r32; omega), if_neg (by first | decide | omega), C_fine h0 (by first | decide | omega), zb_s, if_pos (by unfold r32; omega), if_pos rl]
    unfold fsN
    by_cases c : fv k ≤ l
    · rw [if_neg (by first | decide | omega), if_pos (decide_eq_true c), if_neg (by first | decide | omega)]
    · rw [if_pos (by first | decide | omega), if_neg (show ¬ decide (fv k ≤ l) = true from fun h => c (of_decide_eq_true h))]
      exact ih n (by first | decide | omega) (by first | decide | omega) (by first | decide | omega)
theorem C_great {K : zK} {l : Int} {F : zF} {B : zB} (hK : 3002 ≤ K.1) (rl : r32 l) : f_S_greatestValue K l F B = some (gvF l, F, B) := C_gv2 rl 24 K.1 (Int.le_refl _) (by decide) (by first | decide | omega)
theorem un_z {u : Int} (hu : u = 256 ∨ u = 128 ∨ u = 64 ∨ u = 32) : (zshr u 0 = u ∧ zshr u 1 = u / 2 ∧ zshr u 2 = u / 4 ∧ zshr u 3 = u / 8 ∧ zshr u 4 = u / 16) ∧ (2 ≤ u / 16 ∧ u / 16 ≤ 256 ∧ 2 ≤ u / 8 ∧ u / 8 ≤ 256 ∧ 2 ≤ u / 4 ∧ u / 4 ≤ 256 ∧ 2 ≤ u / 2 ∧ u / 2 ≤ 256) := by
  rcases hu with rfl | rfl | rfl | rfl <;> decide
theorem C_st5 {K : zK} {u a : Int} {F : zF} {B : zB} (hK : 3002 ≤ K.1) (hu : u = 256 ∨ u = 128 ∨ u = 64 ∨ u = 32) (a0 : 0 ≤ a) (a1 : a ≤ 100000) : f_S_strength_42 K K.1 0 u a F B = some (st5 u a, F, B) := by
  obtain ⟨⟨z0, z1, z2, z3, z4⟩, zz⟩ := un_z hu
  obtain ⟨m, hm⟩ : ∃ m, K.1 = m + 6 := ⟨K.1 - 6, (by first | decide | omega)⟩
  have stp : ∀ (m : Nat) (k k' r p : Int), 0 ≤ k → k < 5 → k + 1 = k' → 6 - k = r → zshr u k = p → 2 ≤ p → p ≤ 256 → f_S_strength_42 K (m + 1) k u a F B = if a % p = 0 then some (r, F, B) else f_S_strength_42 K m k' u a F B := fun m k k' r p h0 h1 ek er e p0 p1 => by
    have q1 := Int.emod_nonneg a (show p ≠ 0 by omega)
    have q2 := Int.emod_lt_of_pos a (show 0 < p by omega)
    rw [f_S_strength_42, if_pos (by unfold r32; omega), if_neg (by first | decide | omega), e, if_pos (iI_n0 (by first | decide | omega) (by unfold r32; omega)), zrm_e a0 (by unfold r32; omega) (by first | decide | omega) (by unfold r32; omega), if_pos (by unfold r32; omega), ek, er]
  have s5 : f_S_strength_42 K (m + 1) 5 u a F B = some (1, F, B) := by rw [f_S_strength_42, if_pos (by decide), if_pos (by decide)]
  have s4 := stp (m + 1) 4 5 2 _ (by decide) (by decide) (by decide) (by decide) z4 (by first | decide | omega) (by first | decide | omega)
  have s3 := stp (m + 1 + 1) 3 4 3 _ (by decide) (by decide) (by decide) (by decide) z3 (by first | decide | omega) (by first | decide | omega)
  have s2 := stp (m + 1 + 1 + 1) 2 3 4 _ (by decide) (by decide) (by decide) (by decide) z2 (by first | decide | omega) (by first | decide | omega)
  have s1 := stp (m + 1 + 1 + 1 + 1) 1 2 5 _ (by decide) (by decide) (by decide) (by decide) z1 (by first | decide | omega) (by first | decide | omega)
  have s0 := stp (m + 1 + 1 + 1 + 1 + 1) 0 1 6 _ (by decide) (by decide) (by decide) (by decide) z0 (by first | decide | omega) (by first | decide | omega)
  rw [show K.1 = m + 1 + 1 + 1 + 1 + 1 + 1 by omega, s0, s1, s2, s3, s4, s5]
  unfold st5
  by_cases c0 : a % u = 0
  · rw [if_pos c0, if_pos c0]
  rw [if_neg c0, if_neg c0]
  by_cases c1 : a % (u / 2) = 0
  · rw [if_pos c1, if_pos c1]
  rw [if_neg c1, if_neg c1]
  by_cases c2 : a % (u / 4) = 0
  · rw [if_pos c2, if_pos c2]
  rw [if_neg c2, if_neg c2]
  by_cases c3 : a % (u / 8) = 0
  · rw [if_pos c3, if_pos c3]
  rw [if_neg c3, if_neg c3]
  by_cases c4 : a % (u / 16) = 0
  · rw [if_pos c4, if_pos c4]
  rw [if_neg c4, if_neg c4]
theorem bw_e {p f t : Int} (hp : 0 < p) (f0 : 0 ≤ f) (ft : f < t) : f < (t - 1) / p * p ↔ bw p f t := by
  have e1 := Int.mul_ediv_add_emod f p
  have e2 := Int.emod_nonneg f (show p ≠ 0 by omega)
  have e3 := Int.emod_lt_of_pos f hp
  have g1 := Int.mul_ediv_add_emod (t - 1) p
  have g2 := Int.emod_nonneg (t - 1) (show p ≠ 0 by omega)
  have g3 := Int.emod_lt_of_pos (t - 1) hp
  show _ ↔ (f / p + 1) * p < t
  constructor
  · intro h
    have : f / p < (t - 1) / p := Int.ediv_lt_of_lt_mul hp h
    have m : (f / p + 1) * p ≤ (t - 1) / p * p := Int.mul_le_mul_of_nonneg_right (by first | decide | omega) (by first | decide | omega)
    rw [Int.mul_comm p] at g1
    omega
  · intro h
    have : f / p + 1 ≤ (t - 1) / p := Int.le_ediv_of_mul_le hp (by first | decide | omega)
    have m : (f / p + 1) * p ≤ (t - 1) / p * p := Int.mul_le_mul_of_nonneg_right this (by first | decide | omega)
    rw [Int.add_mul, Int.one_mul] at m
    rw [Int.mul_comm p] at e1
    omega
theorem C_bt5 {K : zK} {u f t : Int} {F : zF} {B : zB} (hK : 3002 ≤ K.1) (hu : u = 256 ∨ u = 128 ∨ u = 64 ∨ u = 32) (f0 : 0 ≤ f) (ft : f < t) (t1 : t ≤ 100000) : f_S_strengthBetween_44 K K.1 0 u f t F B = some (bt5 u f t, F, B) := by
  obtain ⟨⟨z0, z1, z2, z3, z4⟩, zz⟩ := un_z hu
  obtain ⟨m, hm⟩ : ∃ m, K.1 = m + 6 := ⟨K.1 - 6, (by first | decide | omega)⟩
  have stp : ∀ (m : Nat) (k k' r p : Int), 0 ≤ k → k < 5 → k + 1 = k' → 6 - k = r → zshr u k = p → 2 ≤ p → p ≤ 256 → f_S_strengthBetween_44 K (m + 1) k u f t F B = if bw p f t then some (r, F, B) else f_S_strengthBetween_44 K m k' u f t F B := fun m k k' r p h0 h1 ek er e p0 p1 => by
    have q1 : 0 ≤ (t - 1) / p := Int.ediv_nonneg (by first | decide | omega) (by first | decide | omega)
    have q2 : (t - 1) / p * p ≤ t - 1 := Int.ediv_mul_le _ (by first | decide | omega)
    have q3 : 0 ≤ (t - 1) / p * p := Int.mul_nonneg q1 (by first | decide | omega)
    rw [f_S_strengthBetween_44, if_pos (by unfold r32; omega), if_neg (by first | decide | omega), e, if_pos (iI_n0 (by first | decide | omega) (by unfold r32; omega)), zdv_e (by first | decide | omega) (by unfold r32; omega) (by first | decide | omega) (by unfold r32; omega), if_pos (by unfold r32; omega), if_pos (by unfold r32; omega), ek, er]
    by_cases c : bw p f t
    · rw [if_pos c, if_neg (by have := (bw_e (by first | decide | omega) f0 ft).mpr c; omega)]
    · rw [if_neg c, if_pos (by
        rcases Int.lt_or_le f ((t - 1) / p * p) with y | y
        · exact absurd ((bw_e (by first | decide | omega) f0 ft).mp y) c
        · exact y)]
  have s5 : f_S_strengthBetween_44 K (m + 1) 5 u f t F B = some (1, F, B) := by rw [f_S_strengthBetween_44, if_pos (by decide), if_pos (by decide)]
  have s4 := stp (m + 1) 4 5 2 _ (by decide) (by decide) (by decide) (by decide) z4 (by first | decide | omega) (by first | decide | omega)
  have s3 := stp (m + 1 + 1) 3 4 3 _ (by decide) (by decide) (by decide) (by decide) z3 (by first | decide | omega) (by first | decide | omega)
  have s2 := stp (m + 1 + 1 + 1) 2 3 4 _ (by decide) (by decide) (by decide) (by decide) z2 (by first | decide | omega) (by first | decide | omega)
  have s1 := stp (m + 1 + 1 + 1 + 1) 1 2 5 _ (by decide) (by decide) (by decide) (by decide) z1 (by first | decide | omega) (by first | decide | omega)
  have s0 := stp (m + 1 + 1 + 1 + 1 + 1) 0 1 6 _ (by decide) (by decide) (by decide) (by decide) z0 (by first | decide | omega) (by first | decide | omega)
  rw [show K.1 = m + 1 + 1 + 1 + 1 + 1 + 1 by omega, s0, s1, s2, s3, s4, s5]
  unfold bt5
  by_cases c0 : bw u f t
  · rw [if_pos c0, if_pos c0]
  rw [if_neg c0, if_neg c0]
  by_cases c1 : bw (u / 2) f t
  · rw [if_pos c1, if_pos c1]
  rw [if_neg c1, if_neg c1]
  by_cases c2 : bw (u / 4) f t
  · rw [if_pos c2, if_pos c2]
  rw [if_neg c2, if_neg c2]
  by_cases c3 : bw (u / 8) f t
  · rw [if_pos c3, if_pos c3]
  rw [if_neg c3, if_neg c3]
  by_cases c4 : bw (u / 16) f t
  · rw [if_pos c4, if_pos c4]
  rw [if_neg c4, if_neg c4]
end
end
section
section
/-! ===== the class's choice of a note's value ===== -/
theorem un_d {d : Int} (hd : d = 2 ∨ d = 4 ∨ d = 8 ∨ d = 16) : 512 / d = 256 ∨ 512 / d = 128 ∨ 512 / d = 64 ∨ 512 / d = 32 := by
  rcases hd with rfl | rfl | rfl | rfl <;> decide
theorem bc_b {n d : Int} : 1 ≤ bc n d ∧ bc n d ≤ 3 := by
  unfold bc
  split
  · decide
  · split <;> decide
theorem un_2 {u n : Int} (hu : u = 256 ∨ u = 128 ∨ u = 64 ∨ u = 32) : (u * n) % (2 * u) = 0 ↔ n % 2 = 0 := by
  rcases hu with rfl | rfl | rfl | rfl <;> omega
theorem un_3 {u n : Int} (hu : u = 256 ∨ u = 128 ∨ u = 64 ∨ u = 32) (hn : 0 ≤ n ∧ n ≤ 12) : 0 ≤ u * n ∧ u * n ≤ 3072 := by
  rcases hu with rfl | rfl | rfl | rfl <;> omega
theorem un_4 {u n : Int} (hu : u = 256 ∨ u = 128 ∨ u = 64 ∨ u = 32) (hn : 1 ≤ n) : 32 ≤ u * n := by
  rcases hu with rfl | rfl | rfl | rfl <;> omega
theorem C_str {K : zK} {n d a : Int} {F : zF} {B : zB} (hK : 3002 ≤ K.1) (hn : 1 ≤ n ∧ n ≤ 12) (hd : d = 2 ∨ d = 4 ∨ d = 8 ∨ d = 16) (a0 : 0 ≤ a) (a1 : a ≤ 100000) : f_S_strength K (512 / d * n) (512 / d * bc n d) (512 / d) a F B = some (st n d a, F, B) := by
  have hu := un_d hd
  have bb := bc_b (n := n) (d := d)
  have b3 := un_3 hu (n := n) (by first | decide | omega)
  have c3 := un_3 hu (n := bc n d) (by first | decide | omega)
  have c4 := un_4 hu (n := bc n d) (by first | decide | omega)
  have h2 := un_2 (n := n) hu
  generalize hq : bc n d = q at *
  unfold st
  rw [hq]
  generalize 512 / d = u at *
  have m1 := Int.emod_nonneg (u * n) (show 2 * u ≠ 0 by omega)
  have m2 := Int.emod_lt_of_pos (u * n) (show 0 < 2 * u by omega)
  have p1 := Int.emod_nonneg a (show u * q ≠ 0 by omega)
  have p2 := Int.emod_lt_of_pos a (show 0 < u * q by omega)
  have ra : r32 a := by unfold r32; omega
  have e30 : f_S_strength_30 K (u * q) u a F B = some (if a % (u * q) = 0 then 7 else st5 u a, F, B) := by
    unfold f_S_strength_30
    rw [if_pos (iI_n0 (by first | decide | omega) (by unfold r32; omega)), zrm_e a0 ra (by first | decide | omega) (by unfold r32; omega), if_pos (by unfold r32; omega)]
    by_cases c : a % (u * q) = 0
    · rw [if_pos c, if_pos c]
    · rw [if_neg c, if_neg c, C_st5 hK hu a0 a1]
  unfold f_S_strength f_S_strength_9
  rw [if_pos ra]
  by_cases z0 : a = 0
  · rw [if_pos z0, if_pos (Or.inl z0)]
  rw [if_neg z0, if_pos (show r32 (u * n) by unfold r32; omega)]
  by_cases z1 : a = u * n
  · rw [if_pos z1, if_pos (Or.inr z1)]
  rw [if_neg z1, if_neg (show ¬ (a = 0 ∨ a = u * n) from fun h => by rcases h with h | h; exact z0 h; exact z1 h), if_pos (iI_n0 (by first | decide | omega) (by unfold r32; omega)), zrm_e b3.1 (by unfold r32; omega) (by first | decide | omega) (by unfold r32; omega), if_pos (show r32 (u * n % (2 * u)) by unfold r32; omega)]
  by_cases z2 : n % 2 = 0
  · rw [if_pos (h2.mpr z2), if_pos (show r32 (2 * a) by unfold r32; omega)]
    by_cases z3 : 2 * a = u * n
    · rw [if_pos z3, if_pos (show n % 2 = 0 ∧ 2 * a = u * n from ⟨z2, z3⟩)]
    · rw [if_neg z3, if_neg (show ¬ (n % 2 = 0 ∧ 2 * a = u * n) from fun h => z3 h.2), e30]
  · rw [if_neg (fun h => z2 (h2.mp h)), if_neg (show ¬ (n % 2 = 0 ∧ 2 * a = u * n) from fun h => z2 h.1), e30]
theorem C_btw {K : zK} {n d f t : Int} {F : zF} {B : zB} (hK : 3002 ≤ K.1) (hn : 1 ≤ n ∧ n ≤ 12) (hd : d = 2 ∨ d = 4 ∨ d = 8 ∨ d = 16) (f0 : 0 ≤ f) (ft : f < t) (t1 : t ≤ 100000) : f_S_strengthBetween K (512 / d * n) (512 / d * bc n d) (512 / d) f t F B = some (bt n d f t, F, B) := by
  have hu := un_d hd
  have bb := bc_b (n := n) (d := d)
  have b3 := un_3 hu (n := n) (by first | decide | omega)
  have c3 := un_3 hu (n := bc n d) (by first | decide | omega)
  have c4 := un_4 hu (n := bc n d) (by first | decide | omega)
  have h2 := un_2 (n := n) hu
  generalize hq : bc n d = q at *
  unfold bt
  rw [hq]
  generalize 512 / d = u at *
  have m1 := Int.emod_nonneg (u * n) (show 2 * u ≠ 0 by omega)
  have m2 := Int.emod_lt_of_pos (u * n) (show 0 < 2 * u by omega)
  have e26 : f_S_strengthBetween_26 K (u * q) u f t F B = some (if bw (u * q) f t then 7 else bt5 u f t, F, B) := by
    have q1 : 0 ≤ (t - 1) / (u * q) := Int.ediv_nonneg (by first | decide | omega) (by first | decide | omega)
    have q2 : (t - 1) / (u * q) * (u * q) ≤ t - 1 := Int.ediv_mul_le _ (by first | decide | omega)
    have q3 : 0 ≤ (t - 1) / (u * q) * (u * q) := Int.mul_nonneg q1 (by first | decide | omega)
    unfold f_S_strengthBetween_26
    rw [if_pos (iI_n0 (by first | decide | omega) (by unfold r32; omega)), zdv_e (by first | decide | omega) (by unfold r32; omega) (by first | decide | omega) (by unfold r32; omega), if_pos (by unfold r32; omega), if_pos (by unfold r32; omega)]
    by_cases c : bw (u * q) f t
    · rw [if_pos c, if_neg (by have := (bw_e (by first | decide | omega) f0 ft).mpr c; omega)]
    · rw [if_neg c, if_pos (by
        rcases Int.lt_or_le f ((t - 1) / (u * q) * (u * q)) with y | y
        · exact absurd ((bw_e (by first | decide | omega) f0 ft).mp y) c
        · exact y), C_bt5 hK hu f0 ft t1]
  unfold f_S_strengthBetween
  rw [if_pos (iI_n0 (by first | decide | omega) (by unfold r32; omega)), zrm_e b3.1 (by unfold r32; omega) (by first | decide | omega) (by unfold r32; omega), if_pos (show r32 (u * n % (2 * u)) by unfold r32; omega)]
  by_cases z2 : n % 2 = 0
  · rw [if_pos (h2.mpr z2), if_pos (show r32 (2 * f) by unfold r32; omega), if_pos (show r32 (u * n) by unfold r32; omega)]
    by_cases z3 : u * n ≤ 2 * f
    · rw [if_pos z3, if_neg (show ¬ (n % 2 = 0 ∧ 2 * f < u * n ∧ u * n < 2 * t) from fun h => (by first | decide | omega)), e26]
    · rw [if_neg z3, if_pos (show r32 (2 * t) by unfold r32; omega)]
      by_cases z4 : 2 * t ≤ u * n
      · rw [if_pos z4, if_neg (show ¬ (n % 2 = 0 ∧ 2 * f < u * n ∧ u * n < 2 * t) from fun h => (by first | decide | omega)), e26]
      · rw [if_neg z4, if_pos (show n % 2 = 0 ∧ 2 * f < u * n ∧ u * n < 2 * t from ⟨z2, (by first | decide | omega), (by first | decide | omega)⟩)]
  · rw [if_neg (fun h => z2 (h2.mp h)), if_neg (show ¬ (n % 2 = 0 ∧ 2 * f < u * n ∧ u * n < 2 * t) from fun h => z2 h.1), e26]
theorem st_b {n d a : Int} : 1 ≤ st n d a ∧ st n d a ≤ 9 := by
  unfold st st5
  split
  · decide
  · split
    · decide
    · split
      · decide
      · split
        · decide
        · split
          · decide
          · split
            · decide
            · split
              · decide
              · split <;> decide
theorem bt_b {n d f t : Int} : 1 ≤ bt n d f t ∧ bt n d f t ≤ 9 := by
  unfold bt bt5
  split
  · decide
  · split
    · decide
    · split
      · decide
      · split
        · decide
        · split
          · decide
          · split
            · decide
            · split <;> decide
theorem zmx {a b : Int} : zmax a b = mx a b := by
  unfold zmax mx
  by_cases c : a < b
  · rw [if_pos c, if_pos (by first | decide | omega)]
  · rw [if_neg c]
    by_cases e : a ≤ b
    · rw [if_pos e]; omega
    · rw [if_neg e]
theorem C_bc {K : zK} {n d : Int} {F : zF} {B : zB} (hn : 1 ≤ n ∧ n ≤ 12) (hd : d = 2 ∨ d = 4 ∨ d = 8 ∨ d = 16) : f_S_beatCount K n d F B = some (bc n d, F, B) := by
  unfold f_S_beatCount f_S_beatCount_14 f_S_beatCount_24 bc
  have m1 := Int.emod_nonneg n (show (3 : Int) ≠ 0 by decide)
  have m2 := Int.emod_lt_of_pos n (show (0 : Int) < 3 by decide)
  rw [zrm_e (by first | decide | omega) (by unfold r32; omega) (by decide) (by decide)]
  have rm : r32 (n % 3) := by unfold r32; omega
  rcases hd with rfl | rfl | rfl | rfl
  · rw [if_pos (by decide), if_pos (by decide), if_pos (by decide), if_neg (by decide), if_neg (by first | decide | omega), if_pos (by decide)]
  · rw [if_pos (by decide), if_pos (by decide), if_pos (by decide), if_neg (by decide), if_neg (by first | decide | omega), if_pos (by decide)]
  · rw [if_pos (by decide), if_neg (by decide), if_pos rm]
    by_cases c : n % 3 = 0
    · rw [if_pos c, if_pos ⟨by decide, c⟩]
    · rw [if_neg c, if_pos (by decide), if_pos (by decide), if_neg (fun h => c h.2), if_neg (by decide)]
  · rw [if_pos (by decide), if_neg (by decide), if_pos rm]
    by_cases c : n % 3 = 0
    · rw [if_pos c, if_pos ⟨by decide, c⟩]
    · rw [if_neg c, if_pos (by decide), if_pos (by decide), if_neg (fun h => c h.2), if_neg (by decide)]
theorem C_nv42 {K : zK} {n d f l : Int} {F : zF} {B : zB} (hK : 3002 ≤ K.1) (hn : 1 ≤ n ∧ n ≤ 12) (hd : d = 2 ∨ d = 4 ∨ d = 8 ∨ d = 16) (f0 : 0 ≤ f) (f1 : f ≤ 10000) (l0 : 0 ≤ l) (l1 : l ≤ 10000) : ∀ (r m : Nat) {k : Int}, 0 ≤ k → k + r = 24 → r < m → f_S_nextValue_42 K m k (st n d f) (512 / d * bc n d) (512 / d * n) (512 / d) f l F B = some (if fsN (fun k => decide (fv k ≤ l ∧ stnd n d f k)) r k < 0 then gvF l else fsN (fun k => decide (fv k ≤ l ∧ stnd n d f k)) r k, F, B) := by
  intro r
  induction r with
  | zero =>
    intro m k h0 hk hm
    obtain ⟨m, rfl⟩ : ∃ j, m = j + 1 := ⟨m - 1, (by first | decide | omega)⟩
    rw [f_S_nextValue_42, if_pos (by unfold r32; omega), if_pos (by first | decide | omega), C_great hK (by unfold r32; omega), zb_s]
    rfl
  | succ r ih =>
    intro m k h0 hk hm
    obtain ⟨m, rfl⟩ : ∃ j, m = j + 1 := ⟨m - 1, (by first | decide | omega)⟩
    have b := fv_b (k := k) h0 (by first | decide | omega)
    have s1 := st_b (n := n) (d := d) (a := f)
    have s2 := st_b (n := n) (d := d) (a := f + fv k)
    have s3 := bt_b (n := n) (d := d) (f := f) (t := f + fv k)
    have ih' := ih m (k := k + 1) (by first | decide | omega) (by first | decide | omega) (by first | decide | omega)
    have go : ∀ F B, f_S_nextValue_104 (f_S_nextValue_42 K m) K k (st n d f) (512 / d * bc n d) (512 / d * n) (512 / d) f l F B = f_S_nextValue_42 K m (k + 1) (st n d f) (512 / d * bc n d) (512 / d * n) (512 / d) f l F B := fun _ _ => rfl
    rw [f_S_nextValue_42, if_pos (by unfold r32; omega), if_neg (by first | decide | omega), C_fine h0 (by first | decide | omega), zb_s, if_pos (show r32 (f + fv k) by unfold r32; omega), if_pos (show r32 (f + l) by unfold r32; omega)]
    unfold fsN
    by_cases c : fv k ≤ l
    · rw [if_neg (show ¬ f + l < f + fv k by omega), C_str hK hn hd (by first | decide | omega) (by first | decide | omega), zb_s, if_pos (show r32 (st n d f) by unfold r32; omega), if_pos (show r32 (st n d (f + fv k)) by unfold r32; omega), C_btw hK hn hd f0 (by first | decide | omega) (by first | decide | omega), zb_s, if_pos (show r32 (bt n d f (f + fv k)) by unfold r32; omega), zmx]
      have mb : 1 ≤ mx (st n d f) (st n d (f + fv k)) ∧ mx (st n d f) (st n d (f + fv k)) ≤ 9 := by unfold mx; split <;> omega
      rw [if_pos (show r32 (mx (st n d f) (st n d (f + fv k))) by unfold r32; omega)]
      by_cases s : stnd n d f k
      · rw [if_neg (show ¬ mx (st n d f) (st n d (f + fv k)) < bt n d f (f + fv k) by have : bt n d f (f + fv k) ≤ mx (st n d f) (st n d (f + fv k)) := s; omega), if_pos (decide_eq_true ⟨c, s⟩), if_neg (by first | decide | omega)]
      · rw [if_pos (show mx (st n d f) (st n d (f + fv k)) < bt n d f (f + fv k) by
          rcases Int.lt_or_le (mx (st n d f) (st n d (f + fv k))) (bt n d f (f + fv k)) with y | y
          · exact y
          · exact absurd y s), if_neg (show ¬ decide (fv k ≤ l ∧ stnd n d f k) = true from fun h => s (of_decide_eq_true h).2), go]
        exact ih'
    · rw [if_pos (show f + l < f + fv k by omega), if_neg (show ¬ decide (fv k ≤ l ∧ stnd n d f k) = true from fun h => c (of_decide_eq_true h).1), go]
      exact ih'
theorem C_next {K : zK} {n d f l : Int} {F : zF} {B : zB} (hK : 3002 ≤ K.1) (hn : 1 ≤ n ∧ n ≤ 12) (hd : d = 2 ∨ d = 4 ∨ d = 8 ∨ d = 16) (f0 : 0 ≤ f) (f1 : f ≤ 10000) (l0 : 0 ≤ l) (l1 : l ≤ 10000) : f_S_nextValue K n d f l F B = some (nvF n d f l, F, B) := by
  have zd : zdv 512 (zmax d 1) = 512 / d ∧ (¬ iI (zmax d 1) = 0) ∧ r32 d := by
    rcases hd with rfl | rfl | rfl | rfl <;> decide
  unfold f_S_nextValue
  rw [if_pos zd.2.2, if_pos zd.2.1, C_bc hn hd, zb_s, zd.1, C_str hK hn hd f0 (by first | decide | omega), zb_s, C_nv42 hK hn hd f0 f1 l0 l1 24 K.1 (Int.le_refl _) (by decide) (by first | decide | omega)]
  rfl
end
end
section
section
/-! ===== strengths, as the reference has them ===== -/
/-- a 512th of a whole -/
def X5 : Int := 1587600
theorem FR_5 {n d u : Int} (d0 : 0 < d) (h : d * u = 512 * n) (n0 : 0 ≤ n) (hd : ∃ x, 512 = d * x) : FR n d (X5 * u) := by
  obtain ⟨x, hx⟩ := hd
  refine ⟨d0, ⟨1587600 * x, ?_⟩, n0, ?_⟩
  · unfold WW
    calc (812851200 : Int) = 1587600 * 512 := by decide
      _ = 1587600 * (d * x) := by rw [← hx]
      _ = d * (1587600 * x) := by ac_rfl
  · unfold WW X5
    calc n * 812851200 = 1587600 * (512 * n) := by omega
      _ = 1587600 * (d * u) := by rw [← h]
      _ = 1587600 * u * d := by ac_rfl
theorem X5_m {a b : Int} (b0 : 0 < b) : (X5 * a) % (X5 * b) = 0 ↔ a % b = 0 := by
  rw [Int.mul_emod_mul_of_pos a b (show 0 < X5 by decide)]
  unfold X5
  omega
theorem X5_d {a b : Int} : (X5 * a) / (X5 * b) = a / b := Int.mul_ediv_mul_of_pos _ _ (by decide)
theorem bar5 {n d : Int} (hd : d = 2 ∨ d = 4 ∨ d = 8 ∨ d = 16) : barV n d = X5 * (512 / d * n) := by
  unfold barV X5
  rcases hd with rfl | rfl | rfl | rfl
  · rw [show (812851200 : Int) / 2 = 406425600 by decide, show (512 : Int) / 2 = 256 by decide]; omega
  · rw [show (812851200 : Int) / 4 = 203212800 by decide, show (512 : Int) / 4 = 128 by decide]; omega
  · rw [show (812851200 : Int) / 8 = 101606400 by decide, show (512 : Int) / 8 = 64 by decide]; omega
  · rw [show (812851200 : Int) / 16 = 50803200 by decide, show (512 : Int) / 16 = 32 by decide]; omega
theorem L_beat {K : Nat} {w n d : Int} {F : zF} {B : zB} (w0 : 0 ≤ w ∧ w < 3) (m4 : F 13 w 4 = n) (m5 : F 13 w 5 = d) (hn : 1 ≤ n ∧ n ≤ 12) (hd : d = 2 ∨ d = 4 ∨ d = 8 ∨ d = 16) : f_M_beat K w F B = some (bc n d, F, B) := by
  have m1 := Int.emod_nonneg n (show (3 : Int) ≠ 0 by decide)
  have m2 := Int.emod_lt_of_pos n (show (0 : Int) < 3 by decide)
  have rm : r32 (n % 3) := by unfold r32; omega
  unfold f_M_beat f_M_isCompound f_M_isCompound_18 f_M_isCompound_31 f_M_isCompound_32 f_M_beat_27 f_M_beat_32 bc
  rw [if_pos w0, m5, m4, zrm_e (by first | decide | omega) (by unfold r32; omega) (by decide) (by decide)]
  rcases hd with rfl | rfl | rfl | rfl
  · rw [if_pos (by decide), if_neg (by decide), if_neg (by decide), if_pos (by decide), zb_s, if_pos (by decide), if_pos rfl, if_pos w0, m5, if_pos (by decide), if_pos rfl, if_neg (by first | decide | omega), if_pos (by decide)]
  · rw [if_pos (by decide), if_neg (by decide), if_neg (by decide), if_pos (by decide), zb_s, if_pos (by decide), if_pos rfl, if_pos w0, m5, if_pos (by decide), if_neg (by decide), if_pos rfl, if_neg (by first | decide | omega), if_pos (by decide)]
  · rw [if_pos (by decide), if_pos rfl, if_pos w0, if_pos rm]
    by_cases c : n % 3 = 0
    · rw [if_pos c, if_pos (by decide), zb_s, if_pos (by decide), if_neg (by decide), if_pos ⟨by decide, c⟩]
    · rw [if_neg c, if_pos (by decide), zb_s, if_pos (by decide), if_pos rfl, if_pos w0, m5, if_pos (by decide), if_neg (by decide), if_neg (by decide), if_neg (fun h => c h.2), if_neg (by decide)]
  · rw [if_pos (by decide), if_neg (by decide), if_pos rfl, if_pos w0, if_pos rm]
    by_cases c : n % 3 = 0
    · rw [if_pos c, if_pos (by decide), zb_s, if_pos (by decide), if_neg (by decide), if_pos ⟨by decide, c⟩]
    · rw [if_neg c, if_pos (by decide), zb_s, if_pos (by decide), if_pos rfl, if_pos w0, m5, if_pos (by decide), if_neg (by decide), if_neg (by decide), if_neg (fun h => c h.2), if_neg (by decide)]
/-- d, and its doubles, divide 512 -/
theorem dv_5 {d : Int} (hd : d = 2 ∨ d = 4 ∨ d = 8 ∨ d = 16) : (∃ x, 512 = d * x) ∧ (∃ x, 512 = 2 * d * x) ∧ (d * (512 / d) = 512 ∧ d * 2 * (512 / d / 2) = 512 ∧ d * 2 * 2 * (512 / d / 4) = 512 ∧ d * 2 * 2 * 2 * (512 / d / 8) = 512 ∧ d * 2 * 2 * 2 * 2 * (512 / d / 16) = 512) ∧ 2 * (256 / d) = 512 / d ∧ 2 * d * (256 / d) = 512 := by
  rcases hd with rfl | rfl | rfl | rfl
  · exact ⟨⟨256, by decide⟩, ⟨128, by decide⟩, by decide, by decide, by decide⟩
  · exact ⟨⟨128, by decide⟩, ⟨64, by decide⟩, by decide, by decide, by decide⟩
  · exact ⟨⟨64, by decide⟩, ⟨32, by decide⟩, by decide, by decide, by decide⟩
  · exact ⟨⟨32, by decide⟩, ⟨16, by decide⟩, by decide, by decide, by decide⟩
theorem L_mul5 {K : Nat} {u v a c l m : Int} {F : zF} {B : zB} (h : FR u v (X5 * a)) (a1 : a ≤ 100000) (e : l * m = 512 * c) (c0 : 0 < c) (c1 : c ≤ 100) (l0 : 0 < l) (l1 : l ≤ 1000) (m0 : 0 < m) : f_M_isMultiple K u v c l F B = some (if a % m = 0 then 1 else 0, F, B) := by
  have h' : c * WW = X5 * m * l := by
    unfold WW X5
    calc c * 812851200 = 1587600 * (512 * c) := by omega
      _ = 1587600 * (l * m) := by rw [← e]
      _ = 1587600 * m * l := by ac_rfl
  rw [L_multR h h' c0 (by first | decide | omega) l0 (by first | decide | omega) (Int.mul_pos (by decide) m0) (by unfold X5; omega)]
  by_cases z : a % m = 0
  · rw [if_pos ((X5_m m0).mpr z), if_pos z]
  · rw [if_neg (fun t => z ((X5_m m0).mp t)), if_neg z]
theorem L_str {K : Nat} {w n d u v a : Int} {F : zF} {B : zB} (hK : 812851200 < K) (w0 : 0 ≤ w ∧ w < 3) (m4 : F 13 w 4 = n) (m5 : F 13 w 5 = d) (hn : 1 ≤ n ∧ n ≤ 12) (hd : d = 2 ∨ d = 4 ∨ d = 8 ∨ d = 16) (h : FR u v (X5 * a)) (a0 : 0 ≤ a) (a1 : a ≤ 100000) : f_M_strength K w u v F B = some (st n d a, F, B) := by
  obtain ⟨dv1, dv2, ⟨d0, d1, d2, d3, d4⟩, dv4, dv5⟩ := dv_5 hd
  have hu := un_d hd
  have bb := bc_b (n := n) (d := d)
  have b3 := un_3 hu (n := n) (by first | decide | omega)
  have fb := FR_b h
  have rn : r32 n := by unfold r32; omega
  have rd : r32 d := by unfold r32; omega
  have X5e : X5 = 1587600 := rfl
  have xa : ∀ b : Int, X5 * b = 1587600 * b := fun _ => rfl
  have x1 := xa a
  have x2 := xa (512 / d * n)
  have x3 := xa (256 / d * n)
  have u0 : u = 0 ↔ a = 0 := by
    obtain ⟨v0, _, _, e⟩ := h
    have WWe : WW = 812851200 := rfl
    constructor
    · intro z
      rw [z, Int.zero_mul] at e
      rcases Int.mul_eq_zero.mp e.symm with y | y <;> omega
    · intro z
      rw [z, Int.mul_zero, Int.zero_mul] at e
      rcases Int.mul_eq_zero.mp e with y | y <;> omega
  have m1 := Int.emod_nonneg n (show (2 : Int) ≠ 0 by decide)
  have m2 := Int.emod_lt_of_pos n (show (0 : Int) < 2 by decide)
  have f1 : FR n d (X5 * (512 / d * n)) := FR_5 (by first | decide | omega) (by rw [← Int.mul_assoc, d0]) (by first | decide | omega) dv1
  have f2 : FR n (2 * d) (X5 * (256 / d * n)) := FR_5 (by first | decide | omega) (by rw [← Int.mul_assoc, dv5]) (by first | decide | omega) dv2
  have b4 := un_3 (u := 512 / d) hu (n := bc n d) (by first | decide | omega)
  have b5 := un_4 (u := 512 / d) hu (n := bc n d) (by first | decide | omega)
  have hh : 2 * (256 / d * n) = 512 / d * n := by rw [← Int.mul_assoc, dv4]
  have e63 : f_M_strength_63 K w u v F B = some (if a % (512 / d * bc n d) = 0 then 7 else st5 (512 / d) a, F, B) := by
    unfold f_M_strength_63
    rw [L_beat w0 m4 m5 hn hd, zb_s, if_pos (show r32 (bc n d) by unfold r32; omega), if_pos w0, m5, if_pos rd, L_mul5 h a1 (show d * (512 / d * bc n d) = 512 * bc n d by rw [← Int.mul_assoc, d0]) (by first | decide | omega) (by first | decide | omega) (by first | decide | omega) (by first | decide | omega) (by first | decide | omega), zb_s]
    by_cases c : a % (512 / d * bc n d) = 0
    · rw [if_pos c, if_pos c, if_pos (by decide), if_neg (by decide)]
    rw [if_neg c, if_neg c, if_pos (by decide), if_pos rfl, m5, if_pos rd]
    obtain ⟨m, hm⟩ : ∃ m, K = m + 1 + 1 + 1 + 1 + 1 + 1 := ⟨K - 6, (by first | decide | omega)⟩
    obtain ⟨_, zz⟩ := un_z hu
    have stp : ∀ (m : Nat) (l s p s' l' : Int), 2 ≤ s → s ≤ 6 → s - 1 = s' → l * 2 = l' → 2 ≤ l → l ≤ 300 → l * p = 512 → 0 < p → f_M_strength_96 K (m + 1) l s u v F B = if a % p = 0 then some (s, F, B) else f_M_strength_96 K m l' s' u v F B := fun m l s p s' l' s0 s1 es el l0 l1 e p0 => by
      rw [f_M_strength_96, if_pos (by unfold r32; omega), if_neg (by first | decide | omega), L_mul5 h a1 (show l * p = 512 * 1 by omega) (by decide) (by decide) (by first | decide | omega) (by first | decide | omega) p0, zb_s]
      by_cases y : a % p = 0
      · rw [if_pos y, if_pos y, if_pos (by decide), if_neg (by decide)]
      · rw [if_neg y, if_neg y, if_pos (by decide), if_pos rfl, es, el]
    have t1 : f_M_strength_96 K (m + 1) (d * 2 * 2 * 2 * 2 * 2) 1 u v F B = some (1, F, B) := by rw [f_M_strength_96, if_pos (by decide), if_pos (by decide)]
    have t2 := stp (m + 1) (d * 2 * 2 * 2 * 2) 2 _ 1 _ (by decide) (by decide) (by decide) rfl (by first | decide | omega) (by first | decide | omega) d4 (by first | decide | omega)
    have t3 := stp (m + 1 + 1) (d * 2 * 2 * 2) 3 _ 2 _ (by decide) (by decide) (by decide) rfl (by first | decide | omega) (by first | decide | omega) d3 (by first | decide | omega)
    have t4 := stp (m + 1 + 1 + 1) (d * 2 * 2) 4 _ 3 _ (by decide) (by decide) (by decide) rfl (by first | decide | omega) (by first | decide | omega) d2 (by first | decide | omega)
    have t5 := stp (m + 1 + 1 + 1 + 1) (d * 2) 5 _ 4 _ (by decide) (by decide) (by decide) rfl (by first | decide | omega) (by first | decide | omega) d1 (by first | decide | omega)
    have t6 := stp (m + 1 + 1 + 1 + 1 + 1) d 6 _ 5 _ (by decide) (by decide) (by decide) rfl (by first | decide | omega) (by first | decide | omega) d0 (by first | decide | omega)
    rw [show f_M_strength_96 K K = f_M_strength_96 K (m + 1 + 1 + 1 + 1 + 1 + 1) by rw [← hm], t6, t5, t4, t3, t2, t1]
    unfold st5
    generalize 512 / d = q
    by_cases c0 : a % q = 0
    · rw [if_pos c0, if_pos c0]
    rw [if_neg c0, if_neg c0]
    by_cases c1 : a % (q / 2) = 0
    · rw [if_pos c1, if_pos c1]
    rw [if_neg c1, if_neg c1]
    by_cases c2 : a % (q / 4) = 0
    · rw [if_pos c2, if_pos c2]
    rw [if_neg c2, if_neg c2]
    by_cases c3 : a % (q / 8) = 0
    · rw [if_pos c3, if_pos c3]
    rw [if_neg c3, if_neg c3]
    by_cases c4 : a % (q / 16) = 0
    · rw [if_pos c4, if_pos c4]
    rw [if_neg c4, if_neg c4]
  unfold f_M_strength f_M_strength_25 st
  have ru : r64 u := by
    obtain ⟨_, _, u0, _⟩ := h
    unfold r64
    omega
  rw [if_pos ru]
  by_cases z0 : a = 0
  · rw [if_pos (zcmp_0.mpr (u0.mpr z0)), if_pos (Or.inl z0)]
  rw [if_neg (fun t => z0 (u0.mp (zcmp_0.mp t))), if_pos w0, m4, m5, if_pos rn, if_pos rd, L_cmpR hK h f1 (by first | decide | omega) (by first | decide | omega), zb_s]
  by_cases z1 : a = 512 / d * n
  · rw [if_neg (show ¬ X5 * a < X5 * (512 / d * n) by rw [z1]; omega), if_pos (show X5 * a = X5 * (512 / d * n) by rw [z1]), if_pos (by decide), if_pos rfl, if_pos (show a = 0 ∨ a = 512 / d * n from Or.inr z1)]
  have r6 : ∀ b : Int, ¬ a = b → r32 (if X5 * a < X5 * b then (-1 : Int) else if X5 * a = X5 * b then 0 else 1) ∧ ¬ (if X5 * a < X5 * b then (-1 : Int) else if X5 * a = X5 * b then 0 else 1) = 0 := fun b hb => by
    have := xa b
    by_cases y : X5 * a < X5 * b
    · rw [if_pos y]; decide
    · rw [if_neg y, if_neg (by first | decide | omega)]; decide
  rw [if_pos (r6 _ z1).1, if_neg (r6 _ z1).2, if_neg (show ¬ (a = 0 ∨ a = 512 / d * n) from fun t => by rcases t with t | t; exact z0 t; exact z1 t), m4, zrm_e (by first | decide | omega) rn (by decide) (by decide), if_pos (show r32 (n % 2) by unfold r32; omega)]
  by_cases z2 : n % 2 = 0
  · rw [if_pos z2, if_pos rn, m5, if_pos rd, L_cmpR hK h f2 (by first | decide | omega) (by first | decide | omega), zb_s]
    by_cases z3 : 2 * a = 512 / d * n
    · have e : a = 256 / d * n := by omega
      rw [if_neg (show ¬ X5 * a < X5 * (256 / d * n) by rw [e]; omega), if_pos (show X5 * a = X5 * (256 / d * n) by rw [e]), if_pos (by decide), if_pos rfl, if_pos (show n % 2 = 0 ∧ 2 * a = 512 / d * n from ⟨z2, z3⟩)]
    · have e : ¬ a = 256 / d * n := by omega
      rw [if_pos (r6 _ e).1, if_neg (r6 _ e).2, if_neg (show ¬ (n % 2 = 0 ∧ 2 * a = 512 / d * n) from fun t => z3 t.2), e63]
  · rw [if_neg z2, if_neg (show ¬ (n % 2 = 0 ∧ 2 * a = 512 / d * n) from fun t => z2 t.1), e63]
end
end
section
section
/-! ===== the reference: what lies between two places; whether a value stands ===== -/
theorem L_isB {K : Nat} {a b c d u l f t m : Int} {F : zF} {B : zB} (hK : 812851200 < K) (h1 : FR a b (X5 * f)) (h2 : FR c d (X5 * t)) (hu : FR u l (X5 * m)) (u0 : 0 < u) (u1 : u ≤ 100) (l1 : l ≤ 1000) (m0 : 0 < m) (m1 : m ≤ 10000) (f0 : 0 ≤ f) (f1 : f ≤ 100000) (t1 : t ≤ 100000) : f_M_isBetween K a b c d u l F B = some (if bw m f t then 1 else 0, F, B) := by
  have xa : ∀ b : Int, X5 * b = 1587600 * b := fun _ => rfl
  have x1 := xa f
  have x2 := xa t
  have x3 := xa m
  have q1 : 0 ≤ f / m := Int.ediv_nonneg f0 (by first | decide | omega)
  have q2 : f / m * m ≤ f := Int.ediv_mul_le _ (by first | decide | omega)
  have q3 : (f / m + 1) * m = f / m * m + m := by rw [Int.add_mul, Int.one_mul]
  have q4 : (f / m + 1) * (X5 * m) = X5 * ((f / m + 1) * m) := by ac_rfl
  have x4 := xa ((f / m + 1) * m)
  unfold f_M_isBetween f_M_isBetween_35
  rw [L_oftR h1 hu.2.2.2 u0 (by first | decide | omega) hu.1 (by first | decide | omega) (by first | decide | omega) (by first | decide | omega), zb_s, X5_d, L_cmpR hK (FR_k hu (by first | decide | omega)) h2 (by first | decide | omega) (by first | decide | omega), zb_s, q4]
  by_cases y : bw m f t
  · have y' : (f / m + 1) * m < t := y
    rw [if_pos y, if_pos (show X5 * ((f / m + 1) * m) < X5 * t by omega), if_pos (by decide), if_neg (by decide), if_pos (by decide)]
  · have y' : ¬ (f / m + 1) * m < t := y
    rw [if_neg y, if_neg (show ¬ X5 * ((f / m + 1) * m) < X5 * t by omega)]
    by_cases z : X5 * ((f / m + 1) * m) = X5 * t
    · rw [if_pos z, if_pos (by decide), if_pos (by decide), if_pos (by decide)]
    · rw [if_neg z, if_pos (by decide), if_pos (by decide), if_pos (by decide)]
theorem L_btw {K : Nat} {w n d a b c e f t : Int} {F : zF} {B : zB} (hK : 812851200 < K) (w0 : 0 ≤ w ∧ w < 3) (m4 : F 13 w 4 = n) (m5 : F 13 w 5 = d) (hn : 1 ≤ n ∧ n ≤ 12) (hd : d = 2 ∨ d = 4 ∨ d = 8 ∨ d = 16) (h1 : FR a b (X5 * f)) (h2 : FR c e (X5 * t)) (f0 : 0 ≤ f) (ft : f < t) (t1 : t ≤ 100000) : f_M_between_1 K w a b c e F B = some (bt n d f t, F, B) := by
  obtain ⟨dv1, dv2, ⟨d0, d1, d2, d3, d4⟩, dv4, dv5⟩ := dv_5 hd
  have hu := un_d hd
  have bb := bc_b (n := n) (d := d)
  have b3 := un_3 hu (n := n) (by first | decide | omega)
  have rn : r32 n := by unfold r32; omega
  have rd : r32 d := by unfold r32; omega
  have xa : ∀ b : Int, X5 * b = 1587600 * b := fun _ => rfl
  have x1 := xa f
  have x2 := xa t
  have x3 := xa (256 / d * n)
  have m1 := Int.emod_nonneg n (show (2 : Int) ≠ 0 by decide)
  have m2 := Int.emod_lt_of_pos n (show (0 : Int) < 2 by decide)
  have f2 : FR n (2 * d) (X5 * (256 / d * n)) := FR_5 (by first | decide | omega) (by rw [← Int.mul_assoc, dv5]) (by first | decide | omega) dv2
  have hh : 2 * (256 / d * n) = 512 / d * n := by rw [← Int.mul_assoc, dv4]
  have b4 := un_3 (u := 512 / d) hu (n := bc n d) (by first | decide | omega)
  have b5 := un_4 (u := 512 / d) hu (n := bc n d) (by first | decide | omega)
  have fb : FR (bc n d) d (X5 * (512 / d * bc n d)) := FR_5 (by first | decide | omega) (by rw [← Int.mul_assoc, d0]) (by first | decide | omega) dv1
  have e59 : f_M_between_1_59 K w a b c e F B = some (if bw (512 / d * bc n d) f t then 7 else bt5 (512 / d) f t, F, B) := by
    unfold f_M_between_1_59
    rw [L_beat w0 m4 m5 hn hd, zb_s, if_pos (show r32 (bc n d) by unfold r32; omega), if_pos w0, m5, if_pos rd, L_isB hK h1 h2 fb (by first | decide | omega) (by first | decide | omega) (by first | decide | omega) (by first | decide | omega) (by first | decide | omega) f0 (by first | decide | omega) t1, zb_s]
    by_cases y : bw (512 / d * bc n d) f t
    · rw [if_pos y, if_pos y, if_pos (by decide), if_neg (by decide)]
    rw [if_neg y, if_neg y, if_pos (by decide), if_pos rfl, m5, if_pos rd]
    obtain ⟨m, hm⟩ : ∃ m, K = m + 1 + 1 + 1 + 1 + 1 + 1 := ⟨K - 6, (by first | decide | omega)⟩
    obtain ⟨_, zz⟩ := un_z hu
    have stp : ∀ (m : Nat) (l s p s' l' : Int), 2 ≤ s → s ≤ 6 → s - 1 = s' → l * 2 = l' → 2 ≤ l → l ≤ 300 → l * p = 512 → 0 < p → p ≤ 256 → f_M_between_1_96 K (m + 1) l s a b c e F B = if bw p f t then some (s, F, B) else f_M_between_1_96 K m l' s' a b c e F B := fun m l s p s' l' s0 s1 es el l0 l1 ee p0 p1 => by
      rw [f_M_between_1_96, if_pos (by unfold r32; omega), if_neg (by first | decide | omega), L_isB hK h1 h2 (FR_5 (n := 1) (d := l) (u := p) (by first | decide | omega) (by first | decide | omega) (by decide) ⟨p, ee.symm⟩) (by decide) (by decide) (by first | decide | omega) p0 (by first | decide | omega) f0 (by first | decide | omega) t1, zb_s]
      by_cases y : bw p f t
      · rw [if_pos y, if_pos y, if_pos (by decide), if_neg (by decide)]
      · rw [if_neg y, if_neg y, if_pos (by decide), if_pos rfl, es, el]
    have t1 : f_M_between_1_96 K (m + 1) (d * 2 * 2 * 2 * 2 * 2) 1 a b c e F B = some (1, F, B) := by rw [f_M_between_1_96, if_pos (by decide), if_pos (by decide)]
    have t2 := stp (m + 1) (d * 2 * 2 * 2 * 2) 2 _ 1 _ (by decide) (by decide) (by decide) rfl (by first | decide | omega) (by first | decide | omega) d4 (by first | decide | omega) (by first | decide | omega)
    have t3 := stp (m + 1 + 1) (d * 2 * 2 * 2) 3 _ 2 _ (by decide) (by decide) (by decide) rfl (by first | decide | omega) (by first | decide | omega) d3 (by first | decide | omega) (by first | decide | omega)
    have t4 := stp (m + 1 + 1 + 1) (d * 2 * 2) 4 _ 3 _ (by decide) (by decide) (by decide) rfl (by first | decide | omega) (by first | decide | omega) d2 (by first | decide | omega) (by first | decide | omega)
    have t5 := stp (m + 1 + 1 + 1 + 1) (d * 2) 5 _ 4 _ (by decide) (by decide) (by decide) rfl (by first | decide | omega) (by first | decide | omega) d1 (by first | decide | omega) (by first | decide | omega)
    have t6 := stp (m + 1 + 1 + 1 + 1 + 1) d 6 _ 5 _ (by decide) (by decide) (by decide) rfl (by first | decide | omega) (by first | decide | omega) d0 (by first | decide | omega) (by first | decide | omega)
    rw [show f_M_between_1_96 K K = f_M_between_1_96 K (m + 1 + 1 + 1 + 1 + 1 + 1) by rw [← hm], t6, t5, t4, t3, t2, t1]
    unfold bt5
    generalize 512 / d = q
    by_cases c0 : bw q f t
    · rw [if_pos c0, if_pos c0]
    rw [if_neg c0, if_neg c0]
    by_cases c1 : bw (q / 2) f t
    · rw [if_pos c1, if_pos c1]
    rw [if_neg c1, if_neg c1]
    by_cases c2 : bw (q / 4) f t
    · rw [if_pos c2, if_pos c2]
    rw [if_neg c2, if_neg c2]
    by_cases c3 : bw (q / 8) f t
    · rw [if_pos c3, if_pos c3]
    rw [if_neg c3, if_neg c3]
    by_cases c4 : bw (q / 16) f t
    · rw [if_pos c4, if_pos c4]
    rw [if_neg c4, if_neg c4]
  have cmp : ∀ x y : Int, r32 (if x < y then (-1 : Int) else if x = y then 0 else 1) ∧ (0 ≤ (if x < y then (-1 : Int) else if x = y then 0 else 1) ↔ y ≤ x) := fun x y => by
    by_cases z : x < y
    · rw [if_pos z]; exact ⟨by decide, (by first | decide | omega)⟩
    · rw [if_neg z]
      by_cases z' : x = y
      · rw [if_pos z']; exact ⟨by decide, (by first | decide | omega)⟩
      · rw [if_neg z']; exact ⟨by decide, (by first | decide | omega)⟩
  unfold f_M_between_1 bt
  rw [if_pos w0, m4, zrm_e (by first | decide | omega) rn (by decide) (by decide), if_pos (show r32 (n % 2) by unfold r32; omega)]
  by_cases z2 : n % 2 = 0
  · rw [if_pos z2, if_pos rn, m5, if_pos rd, L_cmpR hK h1 f2 (by first | decide | omega) (by first | decide | omega), zb_s, if_pos (cmp _ _).1]
    by_cases z3 : 512 / d * n ≤ 2 * f
    · rw [if_pos ((cmp _ _).2.mpr (by first | decide | omega)), if_neg (show ¬ (n % 2 = 0 ∧ 2 * f < 512 / d * n ∧ 512 / d * n < 2 * t) from fun h => (by first | decide | omega)), e59]
    · rw [if_neg (fun h => z3 (by have := (cmp _ _).2.mp h; omega)), m4, if_pos rn, m5, if_pos rd, L_cmpR hK f2 h2 (by first | decide | omega) (by first | decide | omega), zb_s, if_pos (cmp _ _).1]
      by_cases z4 : 2 * t ≤ 512 / d * n
      · rw [if_pos ((cmp _ _).2.mpr (by first | decide | omega)), if_neg (show ¬ (n % 2 = 0 ∧ 2 * f < 512 / d * n ∧ 512 / d * n < 2 * t) from fun h => (by first | decide | omega)), e59]
      · rw [if_neg (fun h => z4 (by have := (cmp _ _).2.mp h; omega)), if_pos (show n % 2 = 0 ∧ 2 * f < 512 / d * n ∧ 512 / d * n < 2 * t from ⟨z2, (by first | decide | omega), (by first | decide | omega)⟩)]
  · rw [if_neg z2, if_neg (show ¬ (n % 2 = 0 ∧ 2 * f < 512 / d * n ∧ 512 / d * n < 2 * t) from fun h => z2 h.1), e59]
theorem L_stands {K : Nat} {w n d a b f t : Int} {F : zF} {B : zB} (hK : 812851200 < K) (w0 : 0 ≤ w ∧ w < 3) (m4 : F 13 w 4 = n) (m5 : F 13 w 5 = d) (hn : 1 ≤ n ∧ n ≤ 12) (hd : d = 2 ∨ d = 4 ∨ d = 8 ∨ d = 16) (h1 : FR (F 14 0 54) (F 14 0 55) (X5 * f)) (h2 : FR a b (X5 * t)) (f0 : 0 ≤ f) (t0 : 0 < t) (f1 : f ≤ 10000) (t1 : t ≤ 10000) : f_M_stands K w a b F B = some (if bt n d f (f + t) ≤ mx (st n d f) (st n d (f + t)) then 1 else 0, fr F (X5 * (f + t)), B) := by
  have xa : ∀ b : Int, X5 * b = 1587600 * b := fun _ => rfl
  have x1 := xa f
  have x2 := xa t
  have x3 := xa (f + t)
  have e : X5 * f + X5 * t = X5 * (f + t) := by omega
  have g4 : fr F (X5 * (f + t)) 13 w 4 = n := by rw [fr_n (by first | decide | omega)]; exact m4
  have g5 : fr F (X5 * (f + t)) 13 w 5 = d := by rw [fr_n (by first | decide | omega)]; exact m5
  have s1 := st_b (n := n) (d := d) (a := f)
  have s2 := st_b (n := n) (d := d) (a := f + t)
  have s3 := bt_b (n := n) (d := d) (f := f) (t := f + t)
  unfold f_M_stands f_M_stands_84 f_M_stands_92
  rw [L_plusR hK h1 h2 (by first | decide | omega), zb_s, e, fr_n (k := 54) (by first | decide | omega), fr_n (k := 55) (by first | decide | omega), L_str hK w0 g4 g5 hn hd h1 f0 (by first | decide | omega), zb_s, fr_0, fr_1, L_str hK w0 g4 g5 hn hd (FR_r (by first | decide | omega)) (by first | decide | omega) (by first | decide | omega), zb_s, fr_n (k := 54) (by first | decide | omega), fr_n (k := 55) (by first | decide | omega), L_btw hK w0 g4 g5 hn hd h1 (FR_r (by first | decide | omega)) f0 (by first | decide | omega) (by first | decide | omega), zb_s, if_pos (show r32 (st n d f) by unfold r32; omega), if_pos (show r32 (st n d (f + t)) by unfold r32; omega)]
  unfold mx
  have rb : r32 (bt n d f (f + t)) := by unfold r32; omega
  by_cases c : st n d f ≤ st n d (f + t)
  · rw [if_pos c, if_pos c, if_pos rb, if_pos (show r32 (st n d (f + t)) by unfold r32; omega)]
    by_cases z : bt n d f (f + t) ≤ st n d (f + t)
    · rw [if_neg (by first | decide | omega), if_pos (by decide), if_pos z]
    · rw [if_pos (by first | decide | omega), if_pos (by decide), if_neg z]
  · rw [if_neg c, if_neg c, if_pos rb, if_pos (show r32 (st n d f) by unfold r32; omega)]
    by_cases z : bt n d f (f + t) ≤ st n d f
    · rw [if_neg (by first | decide | omega), if_pos (by decide), if_pos z]
    · rw [if_pos (by first | decide | omega), if_pos (by decide), if_neg z]
end
end
section
section
/-! ===== the reference's choice of a note's value ===== -/
def fuK (k : Int) : Int := if k % 3 = 0 then 7 else if k % 3 = 1 then 3 else 1
def fdK (k : Int) : Int := zlshl 1 (k / 3) * zlshl 1 (2 - k % 3)
theorem fk_f : ∀ k : Fin 24, (1 ≤ fuK (k.val : Int) ∧ fuK (k.val : Int) ≤ 7) ∧ (1 ≤ fdK (k.val : Int) ∧ fdK (k.val : Int) ≤ 512) ∧ fdK (k.val : Int) * fv (k.val : Int) = 512 * fuK (k.val : Int) ∧ 512 = fdK (k.val : Int) * (512 / fdK (k.val : Int)) := by decide +kernel
theorem fk_i {k : Int} (h0 : 0 ≤ k) (h1 : k < 24) : (1 ≤ fuK k ∧ fuK k ≤ 7) ∧ (1 ≤ fdK k ∧ fdK k ≤ 512) ∧ fdK k * fv k = 512 * fuK k ∧ 512 = fdK k * (512 / fdK k) := by
  have h := fk_f ⟨k.toNat, (by first | decide | omega)⟩
  rw [show (((⟨k.toNat, (by first | decide | omega)⟩ : Fin 24).val : Nat) : Int) = k by show ((k.toNat : Nat) : Int) = k; omega] at h
  exact h
theorem fk_F {k : Int} (h0 : 0 ≤ k) (h1 : k < 24) : FR (fuK k) (fdK k) (X5 * fv k) := by
  obtain ⟨a, b, c, d⟩ := fk_i h0 h1
  exact FR_5 (by first | decide | omega) c (by first | decide | omega) ⟨_, d⟩
theorem fv_s : ∀ j k : Fin 24, j.val < k.val → fv (k.val : Int) < fv (j.val : Int) := by decide +kernel
theorem fv_l {j k : Int} (h0 : 0 ≤ j) (h : j < k) (h1 : k < 24) : fv k < fv j := by
  have t := fv_s ⟨j.toNat, (by first | decide | omega)⟩ ⟨k.toNat, (by first | decide | omega)⟩ (by show j.toNat < k.toNat; omega)
  rw [show (((⟨j.toNat, (by first | decide | omega)⟩ : Fin 24).val : Nat) : Int) = j by show ((j.toNat : Nat) : Int) = j; omega, show (((⟨k.toNat, (by first | decide | omega)⟩ : Fin 24).val : Nat) : Int) = k by show ((k.toNat : Nat) : Int) = k; omega] at t
  exact t
theorem fsN_a {P : Int → Bool} : ∀ (m : Nat) {j : Nat} {k : Int}, 0 ≤ k → fsN P (m + j) k = if fsN P m k < 0 then fsN P j (k + m) else fsN P m k := by
  intro m
  induction m with
  | zero => intro j k h0; rw [fsN, if_pos (by decide), Nat.zero_add]; simp
  | succ m ih =>
    intro j k h0
    rw [show m + 1 + j = (m + j) + 1 by omega, show fsN P (m + j + 1) k = if P k = true then k else fsN P (m + j) (k + 1) from rfl, show fsN P (m + 1) k = if P k = true then k else fsN P m (k + 1) from rfl]
    by_cases c : P k = true
    · rw [if_pos c, if_pos c, if_neg (by first | decide | omega)]
    · rw [if_neg c, if_neg c, ih (by first | decide | omega), show k + 1 + (m : Int) = k + ((m + 1 : Nat) : Int) by omega]
/-- the best so far, and how the reference keeps it -/
def BST (b l3 l5 : Int) (F : zF) : Prop := (b = -1 ∧ l3 = 0 ∧ l5 = 1) ∨ ((0 ≤ b ∧ b < 24) ∧ l3 = fuK b ∧ l5 = fdK b ∧ F 14 0 56 = b / 3 ∧ F 14 0 57 = 2 - b % 3)
def fvB (b : Int) : Int := if b < 0 then 0 else fv b
theorem BST_F {b l3 l5 : Int} {F : zF} (h : BST b l3 l5 F) : FR l3 l5 (X5 * fvB b) ∧ (0 ≤ fvB b ∧ fvB b ≤ 896) ∧ (-1 ≤ b ∧ b < 24) ∧ (l3 ≤ 0 ↔ b < 0) ∧ r64 l3 := by
  unfold fvB
  rcases h with ⟨rfl, rfl, rfl⟩ | ⟨hb, rfl, rfl, _⟩
  · rw [if_pos (by decide)]
    exact ⟨⟨by decide, ⟨WW, by decide⟩, by decide, by decide⟩, by decide, by decide, by decide, by decide⟩
  · rw [if_neg (by first | decide | omega)]
    have := fk_i hb.1 hb.2
    have f := fv_b hb.1 hb.2
    exact ⟨fk_F hb.1 hb.2, (by first | decide | omega), (by first | decide | omega), (by first | decide | omega), by unfold r64; omega⟩
/-- what a choice may change -/
def chF (F F' : zF) : Prop := ∀ c y k, ¬ (c = 14 ∧ y = 0 ∧ (k ≤ 1 ∨ k = 56 ∨ k = 57)) → F' c y k = F c y k
/-- what a choice stands on -/
def CHS (w n d here left asks : Int) (F : zF) : Prop := (0 ≤ w ∧ w < 3) ∧ F 13 w 4 = n ∧ F 13 w 5 = d ∧ (1 ≤ n ∧ n ≤ 12) ∧ (d = 2 ∨ d = 4 ∨ d = 8 ∨ d = 16) ∧ FR (F 14 0 52) (F 14 0 53) (X5 * left) ∧ (0 ≤ left ∧ left ≤ 10000) ∧ (asks = 0 ∨ (asks = 1 ∧ FR (F 14 0 54) (F 14 0 55) (X5 * here) ∧ (0 ≤ here ∧ here ≤ 9000)))
theorem CHS_f {w n d here left asks : Int} {F F' : zF} (h : CHS w n d here left asks F) (f : chF F F') : CHS w n d here left asks F' := by
  obtain ⟨a, b, c, e, g, i, j, k⟩ := h
  refine ⟨a, by rw [f 13 w 4 (by first | decide | omega)]; exact b, by rw [f 13 w 5 (by first | decide | omega)]; exact c, e, g, by rw [f 14 0 52 (by first | decide | omega), f 14 0 53 (by first | decide | omega)]; exact i, j, ?_⟩
  rw [f 14 0 54 (by first | decide | omega), f 14 0 55 (by first | decide | omega)]
  exact k
theorem chF_t {F F1 F2 : zF} (h : chF F F1) (h' : chF F1 F2) : chF F F2 := fun c y k n => by rw [h' c y k n, h c y k n]
/-- value k may be taken -/
abbrev chP (n d here left asks k : Int) : Prop := fv k ≤ left ∧ (asks = 0 ∨ stnd n d here k)
theorem L_fu {K : Nat} {p : Int} {F : zF} {B : zB} (hp : p = 0 ∨ p = 1 ∨ p = 2) : f_M_formUp K p F B = some (fuK (2 - p), F, B) := by
  unfold f_M_formUp f_M_formUp_22
  rcases hp with rfl | rfl | rfl
  · rw [if_pos (by decide), if_pos rfl]; rfl
  · rw [if_pos (by decide), if_neg (by decide), if_pos rfl]; rfl
  · rw [if_pos (by decide), if_neg (by decide), if_neg (by decide)]; rfl
theorem L_c18 {K m : Nat} {rec8 : Int → Int → Int → Int → Int → zF → zB → zO} {w n d here left asks p fo l5 l3 b k : Int} {F : zF} {B : zB} (hK : 812851200 < K) (hS : CHS w n d here left asks F) (hp : p = 0 ∨ p = 1 ∨ p = 2) (hf : 0 ≤ fo ∧ fo < 8) (hk : k = 3 * fo + 2 - p) (hB : BST b l3 l5 F) : ∃ F' l5' l3', f_M_choose_18 rec8 K (m + 1) p fo l5 l3 w asks F B = f_M_choose_18 rec8 K m (p + 1) fo l5' l3' w asks F' B ∧ chF F F' ∧ BST (if chP n d here left asks k ∧ fvB b < fv k then k else b) l3' l5' F' := by
  have k0 : 0 ≤ k ∧ k < 24 := by omega
  have km : k % 3 = 2 - p := by omega
  have kd : k / 3 = fo := by omega
  obtain ⟨w0, m4, m5, hn, hd, hl, hl0, ha⟩ := hS
  have hS' : CHS w n d here left asks F := ⟨w0, m4, m5, hn, hd, hl, hl0, ha⟩
  obtain ⟨bF, b0, b1, b2, b3⟩ := BST_F hB
  have fb := fv_b k0.1 k0.2
  have kF := fk_F k0.1 k0.2
  have xa : ∀ b : Int, X5 * b = 1587600 * b := fun _ => rfl
  have x1 := xa left
  have x2 := xa (fv k)
  have x3 := xa (fvB b)
  have fu : fuK (2 - p) = fuK k := by unfold fuK; rw [km]; rcases hp with rfl | rfl | rfl <;> decide
  have fd : zlshl 1 fo * zlshl 1 p = fdK k := by unfold fdK; rw [kd, km, show 2 - (2 - p) = p by omega]
  have cmp : ∀ x y : Int, r32 (if x < y then (-1 : Int) else if x = y then 0 else 1) ∧ (0 < (if x < y then (-1 : Int) else if x = y then 0 else 1) ↔ y < x) := fun x y => by
    by_cases z : x < y
    · rw [if_pos z]; exact ⟨by decide, (by first | decide | omega)⟩
    · rw [if_neg z]
      by_cases z' : x = y
      · rw [if_pos z']; exact ⟨by decide, (by first | decide | omega)⟩
      · rw [if_neg z']; exact ⟨by decide, (by first | decide | omega)⟩
  have take : ∀ G : zF, chF F G → ∃ F' l5' l3', f_M_choose_93 rec8 (f_M_choose_18 rec8 K m) K (fdK k) (fuK k) p fo w asks G B = f_M_choose_18 rec8 K m (p + 1) fo l5' l3' w asks F' B ∧ chF F F' ∧ BST k l3' l5' F' := fun G hG => by
    refine ⟨zup3 (zup3 G 14 0 56 fo) 14 0 57 p, fdK k, fuK k, rfl, fun c y t h => by rw [zup3_v, if_neg (by first | decide | omega), zup3_v, if_neg (by first | decide | omega)]; exact hG c y t h, Or.inr ⟨k0, rfl, rfl, ?_, ?_⟩⟩
    · rw [zup3_v, if_neg (by first | decide | omega), zup3_v, if_pos (by first | decide | omega), kd]
    · rw [zup3_v, if_pos (by first | decide | omega), km]; omega
  have skip : ∀ G : zF, chF F G → G 14 0 56 = F 14 0 56 → G 14 0 57 = F 14 0 57 → ∃ F' l5' l3', f_M_choose_112 rec8 (f_M_choose_18 rec8 K m) K p fo l5 l3 w asks G B = f_M_choose_18 rec8 K m (p + 1) fo l5' l3' w asks F' B ∧ chF F F' ∧ BST b l3' l5' F' := fun G hG h6 h7 => by
    refine ⟨G, l5, l3, rfl, hG, ?_⟩
    rcases hB with h | ⟨h1, h2, h3, h4, h5⟩
    · exact Or.inl h
    · exact Or.inr ⟨h1, h2, h3, by rw [h6]; exact h4, by rw [h7]; exact h5⟩
  rw [f_M_choose_18, if_pos (by unfold r32; omega), if_neg (by first | decide | omega), L_fu hp, zb_s, f_M_formDown, zb_s, fu, fd, L_cmpR hK kF hl (by first | decide | omega) (by first | decide | omega), zb_s, if_pos (cmp _ _).1]
  by_cases c1 : fv k ≤ left
  case neg =>
    rw [if_pos ((cmp _ _).2.mpr (by first | decide | omega)), if_neg (fun h => c1 h.1.1)]
    exact skip F (fun _ _ _ _ => rfl) rfl rfl
  rw [if_neg (fun h => by have := (cmp _ _).2.mp h; omega), L_cmpR hK kF bF (by first | decide | omega) (by first | decide | omega), zb_s, if_pos (cmp _ _).1]
  by_cases c2 : fvB b < fv k
  case neg =>
    rw [if_neg (fun h => by have := (cmp _ _).2.mp h; omega), if_neg (fun h => c2 h.2)]
    exact skip F (fun _ _ _ _ => rfl) rfl rfl
  rw [if_pos ((cmp _ _).2.mpr (by first | decide | omega))]
  rcases ha with rfl | ⟨rfl, ha, h0⟩
  · rw [if_pos (by decide), if_pos rfl, if_pos ⟨⟨c1, Or.inl rfl⟩, c2⟩]
    exact take F (fun _ _ _ _ => rfl)
  · rw [if_pos (by decide), if_neg (by decide), L_stands hK w0 m4 m5 hn hd ha kF h0.1 (by first | decide | omega) (by first | decide | omega) (by first | decide | omega), zb_s]
    have gf : chF F (fr F (X5 * (here + fv k))) := fun c y t h => fr_n (by first | decide | omega)
    by_cases s : stnd n d here k
    · have s' : bt n d here (here + fv k) ≤ mx (st n d here) (st n d (here + fv k)) := s
      rw [if_pos s', if_pos (by decide), if_neg (by decide), if_pos ⟨⟨c1, Or.inr s⟩, c2⟩]
      exact take _ gf
    · have s' : ¬ bt n d here (here + fv k) ≤ mx (st n d here) (st n d (here + fv k)) := s
      rw [if_neg s', if_pos (by decide), if_pos rfl, if_neg (fun h => by rcases h.1.2 with y | y; exact absurd y (by decide); exact s y)]
      exact skip _ gf (fr_n (by first | decide | omega)) (fr_n (by first | decide | omega))
theorem L_ch8 {K : Nat} {w n d here left asks : Int} {B : zB} (hK : 812851200 < K) : ∀ (r m fo : Nat) {l5 l3 : Int} {F : zF}, fo + r = 8 → r < m → CHS w n d here left asks F → BST (fsN (fun k => decide (chP n d here left asks k)) (3 * fo) 0) l3 l5 F → ∃ F', f_M_choose_8 K m fo l5 l3 w asks F B = some (if fsN (fun k => decide (chP n d here left asks k)) 24 0 < 0 then 0 else 1, F', B) ∧ chF F F' ∧ (0 ≤ fsN (fun k => decide (chP n d here left asks k)) 24 0 → F' 14 0 56 = fsN (fun k => decide (chP n d here left asks k)) 24 0 / 3 ∧ F' 14 0 57 = 2 - fsN (fun k => decide (chP n d here left asks k)) 24 0 % 3) := by
  intro r
  induction r with
  | zero =>
    intro m fo l5 l3 F hr hm hS hB
    obtain ⟨m, rfl⟩ : ∃ j, m = j + 1 := ⟨m - 1, (by first | decide | omega)⟩
    obtain rfl : fo = 8 := by omega
    obtain ⟨_, _, _, b2, b3⟩ := BST_F hB
    refine ⟨F, ?_, fun _ _ _ _ => rfl, fun h => ?_⟩
    · rw [f_M_choose_8, if_pos (by decide), if_pos (by decide), if_pos b3]
      unfold f_M_choose_135
      by_cases c : l3 ≤ 0
      · rw [if_pos (zcmp_m.mpr c), if_pos (by decide), if_pos (b2.mp c)]
      · rw [if_neg (fun h => c (zcmp_m.mp h)), if_pos (by decide), if_neg (fun h => c (b2.mpr h))]
    · rcases hB with ⟨h1, _⟩ | ⟨_, _, _, h4, h5⟩
      · exact absurd (show (0 : Int) ≤ -1 by rw [← h1]; exact h) (by decide)
      · exact ⟨h4, h5⟩
  | succ r ih =>
    intro m fo l5 l3 F hr hm hS hB
    obtain ⟨m, rfl⟩ : ∃ j, m = j + 1 := ⟨m - 1, (by first | decide | omega)⟩
    obtain ⟨j, hj⟩ : ∃ j, K = j + 1 + 1 + 1 + 1 := ⟨K - 4, (by first | decide | omega)⟩
    obtain ⟨G1, a5, a3, e1, f1, B1⟩ := L_c18 (m := j + 1 + 1 + 1) (rec8 := f_M_choose_8 K m) (p := 0) (fo := fo) (k := 3 * fo + 2) (B := B) hK hS (Or.inl rfl) (by first | decide | omega) (by first | decide | omega) hB
    obtain ⟨G2, c5, c3, e2, f2, B2⟩ := L_c18 (m := j + 1 + 1) (rec8 := f_M_choose_8 K m) (p := 1) (fo := fo) (k := 3 * fo + 1) (B := B) hK (CHS_f hS f1) (Or.inr (Or.inl rfl)) (by first | decide | omega) (by first | decide | omega) B1
    obtain ⟨G3, d5, d3, e3, f3, B3⟩ := L_c18 (m := j + 1) (rec8 := f_M_choose_8 K m) (p := 2) (fo := fo) (k := 3 * fo) (B := B) hK (CHS_f hS (chF_t f1 f2)) (Or.inr (Or.inr rfl)) (by first | decide | omega) (by first | decide | omega) B2
    have F3 := chF_t f1 (chF_t f2 f3)
    have fin : fsN (fun k => decide (chP n d here left asks k)) (3 * (fo + 1)) 0 = (if chP n d here left asks (3 * fo) ∧ fvB (if chP n d here left asks (3 * fo + 1) ∧ fvB (if chP n d here left asks (3 * fo + 2) ∧ fvB (fsN (fun k => decide (chP n d here left asks k)) (3 * fo) 0) < fv (3 * fo + 2) then 3 * fo + 2 else fsN (fun k => decide (chP n d here left asks k)) (3 * fo) 0) < fv (3 * fo + 1) then 3 * fo + 1 else (if chP n d here left asks (3 * fo + 2) ∧ fvB (fsN (fun k => decide (chP n d here left asks k)) (3 * fo) 0) < fv (3 * fo + 2) then 3 * fo + 2 else fsN (fun k => decide (chP n d here left asks k)) (3 * fo) 0)) < fv (3 * fo) then 3 * (fo : Int) else (if chP n d here left asks (3 * fo + 1) ∧ fvB (if chP n d here left asks (3 * fo + 2) ∧ fvB (fsN (fun k => decide (chP n d here left asks k)) (3 * fo) 0) < fv (3 * fo + 2) then 3 * fo + 2 else fsN (fun k => decide (chP n d here left asks k)) (3 * fo) 0) < fv (3 * fo + 1) then 3 * fo + 1 else (if chP n d here left asks (3 * fo + 2) ∧ fvB (fsN (fun k => decide (chP n d here left asks k)) (3 * fo) 0) < fv (3 * fo + 2) then 3 * fo + 2 else fsN (fun k => decide (chP n d here left asks k)) (3 * fo) 0))) := by
      have l1 := fv_l (j := 3 * fo) (k := 3 * fo + 1) (by first | decide | omega) (by first | decide | omega) (by first | decide | omega)
      have l2 := fv_l (j := 3 * fo + 1) (k := 3 * fo + 2) (by first | decide | omega) (by first | decide | omega) (by first | decide | omega)
      have l0 := fv_b (k := 3 * fo + 2) (by first | decide | omega) (by first | decide | omega)
      rw [show 3 * (fo + 1) = 3 * fo + 3 by omega, fsN_a (3 * fo) (Int.le_refl _)]
      rcases fsN_r (P := fun k => decide (chP n d here left asks k)) (3 * fo) (k := 0) (Int.le_refl _) with z | ⟨z1, z2, _⟩
      · rw [z, if_pos (by decide), show (0 : Int) + ((3 * fo : Nat) : Int) = 3 * fo by omega]
        have fm1 : fvB (-1) = 0 := rfl
        have p2 : fvB (3 * (fo : Int) + 2) = fv (3 * fo + 2) := if_neg (by first | decide | omega)
        have p1 : fvB (3 * (fo : Int) + 1) = fv (3 * fo + 1) := if_neg (by first | decide | omega)
        unfold fsN fsN fsN fsN
        rw [show (3 : Int) * fo + 1 + 1 = 3 * fo + 2 by omega]
        by_cases q2 : chP n d here left asks (3 * fo + 2)
        · rw [if_pos (show chP n d here left asks (3 * fo + 2) ∧ fvB (-1) < fv (3 * fo + 2) from ⟨q2, (by first | decide | omega)⟩)]
          by_cases q1 : chP n d here left asks (3 * fo + 1)
          · rw [if_pos (show chP n d here left asks (3 * fo + 1) ∧ fvB (3 * fo + 2) < fv (3 * fo + 1) from ⟨q1, (by first | decide | omega)⟩)]
            by_cases q0 : chP n d here left asks (3 * fo)
            · rw [if_pos (show chP n d here left asks (3 * fo) ∧ fvB (3 * fo + 1) < fv (3 * fo) from ⟨q0, (by first | decide | omega)⟩), if_pos (decide_eq_true q0)]
            · rw [if_neg (show ¬ (chP n d here left asks (3 * fo) ∧ fvB (3 * fo + 1) < fv (3 * fo)) from fun h => q0 h.1), if_neg (show ¬ decide (chP n d here left asks (3 * fo)) = true from fun h => q0 (of_decide_eq_true h)), if_pos (decide_eq_true q1)]
          · rw [if_neg (show ¬ (chP n d here left asks (3 * fo + 1) ∧ fvB (3 * fo + 2) < fv (3 * fo + 1)) from fun h => q1 h.1)]
            by_cases q0 : chP n d here left asks (3 * fo)
            · rw [if_pos (show chP n d here left asks (3 * fo) ∧ fvB (3 * fo + 2) < fv (3 * fo) from ⟨q0, (by first | decide | omega)⟩), if_pos (decide_eq_true q0)]
            · rw [if_neg (show ¬ (chP n d here left asks (3 * fo) ∧ fvB (3 * fo + 2) < fv (3 * fo)) from fun h => q0 h.1), if_neg (show ¬ decide (chP n d here left asks (3 * fo)) = true from fun h => q0 (of_decide_eq_true h)), if_neg (show ¬ decide (chP n d here left asks (3 * fo + 1)) = true from fun h => q1 (of_decide_eq_true h)), if_pos (decide_eq_true q2)]
        · rw [if_neg (show ¬ (chP n d here left asks (3 * fo + 2) ∧ fvB (-1) < fv (3 * fo + 2)) from fun h => q2 h.1)]
          by_cases q1 : chP n d here left asks (3 * fo + 1)
          · rw [if_pos (show chP n d here left asks (3 * fo + 1) ∧ fvB (-1) < fv (3 * fo + 1) from ⟨q1, (by first | decide | omega)⟩)]
            by_cases q0 : chP n d here left asks (3 * fo)
            · rw [if_pos (show chP n d here left asks (3 * fo) ∧ fvB (3 * fo + 1) < fv (3 * fo) from ⟨q0, (by first | decide | omega)⟩), if_pos (decide_eq_true q0)]
            · rw [if_neg (show ¬ (chP n d here left asks (3 * fo) ∧ fvB (3 * fo + 1) < fv (3 * fo)) from fun h => q0 h.1), if_neg (show ¬ decide (chP n d here left asks (3 * fo)) = true from fun h => q0 (of_decide_eq_true h)), if_pos (decide_eq_true q1)]
          · rw [if_neg (show ¬ (chP n d here left asks (3 * fo + 1) ∧ fvB (-1) < fv (3 * fo + 1)) from fun h => q1 h.1)]
            by_cases q0 : chP n d here left asks (3 * fo)
            · rw [if_pos (show chP n d here left asks (3 * fo) ∧ fvB (-1) < fv (3 * fo) from ⟨q0, (by first | decide | omega)⟩), if_pos (decide_eq_true q0)]
            · rw [if_neg (show ¬ (chP n d here left asks (3 * fo) ∧ fvB (-1) < fv (3 * fo)) from fun h => q0 h.1), if_neg (show ¬ decide (chP n d here left asks (3 * fo)) = true from fun h => q0 (of_decide_eq_true h)), if_neg (show ¬ decide (chP n d here left asks (3 * fo + 1)) = true from fun h => q1 (of_decide_eq_true h)), if_neg (show ¬ decide (chP n d here left asks (3 * fo + 2)) = true from fun h => q2 (of_decide_eq_true h))]
      · generalize fsN (fun k => decide (chP n d here left asks k)) (3 * fo) 0 = b at *
        have g0 := fv_l (j := b) (k := 3 * fo) z1 (by first | decide | omega) (by first | decide | omega)
        have gb : fvB b = fv b := if_neg (by first | decide | omega)
        rw [if_neg (show ¬ b < 0 by omega), if_neg (show ¬ (chP n d here left asks (3 * fo + 2) ∧ fvB b < fv (3 * fo + 2)) from fun h => (by first | decide | omega)), if_neg (show ¬ (chP n d here left asks (3 * fo + 1) ∧ fvB b < fv (3 * fo + 1)) from fun h => (by first | decide | omega)), if_neg (show ¬ (chP n d here left asks (3 * fo) ∧ fvB b < fv (3 * fo)) from fun h => (by first | decide | omega))]
    rw [← fin] at B3
    obtain ⟨F', e4, f4, h4⟩ := ih m (fo + 1) (by first | decide | omega) (by first | decide | omega) (CHS_f hS F3) B3
    refine ⟨F', ?_, chF_t F3 f4, h4⟩
    rw [f_M_choose_8, if_pos (by unfold r32; omega), if_neg (by first | decide | omega), show f_M_choose_18 (f_M_choose_8 K m) K K = f_M_choose_18 (f_M_choose_8 K m) K (j + 1 + 1 + 1 + 1) by rw [← hj], e1, show (0 : Int) + 1 = 1 by decide, e2, show (1 : Int) + 1 = 2 by decide, e3, f_M_choose_18, if_pos (by decide), if_pos (by decide), ← e4]
    rfl
theorem L_choose {K : Nat} {w n d here left asks : Int} {F : zF} {B : zB} (hK : 812851200 < K) (hS : CHS w n d here left asks F) : ∃ F', f_M_choose K w asks F B = some (if fsN (fun k => decide (chP n d here left asks k)) 24 0 < 0 then 0 else 1, F', B) ∧ chF F F' ∧ (0 ≤ fsN (fun k => decide (chP n d here left asks k)) 24 0 → F' 14 0 56 = fsN (fun k => decide (chP n d here left asks k)) 24 0 / 3 ∧ F' 14 0 57 = 2 - fsN (fun k => decide (chP n d here left asks k)) 24 0 % 3) :=
  L_ch8 hK 8 K 0 (by decide) (by first | decide | omega) hS (Or.inl ⟨rfl, rfl, rfl⟩)
end
end
section
section
/-! ===== a note written, both sides ===== -/
theorem L_timesR {K : Nat} {F : zF} {B : zB} {a b c d p r : Int} (hK : 70000000000 < K) (h : FR a b p) (hp : p ≤ 2000000000000) (c0 : 0 < c) (c1 : c ≤ 81) (d0 : 0 < d) (d1 : d ≤ 81) (r0 : 0 ≤ r) (e : p * c = r * d) : f_M_times K a b c d F B = some (0, fr F r, B) := by
  have hb := FR_b h
  have WWe : WW = 812851200 := rfl
  obtain ⟨b0, _, a0, ab⟩ := h
  have g1 := gc_pos (a := a) d0
  have g2 := gc_pos (a := c) b0
  have l1 := gc_le (a := a) d0
  have l2 := gc_le (a := c) b0
  obtain ⟨a', ha⟩ := gc_dl (a := a) (b := d) a0
  obtain ⟨d', hd⟩ := gc_dr (a := a) (b := d) (Int.le_of_lt d0)
  obtain ⟨c', hc⟩ := gc_dl (a := c) (b := b) (Int.le_of_lt c0)
  obtain ⟨b', hb'⟩ := gc_dr (a := c) (b := b) (Int.le_of_lt b0)
  unfold f_M_times
  rw [L_gcd a0 (by first | decide | omega) (Int.le_of_lt d0) (by first | decide | omega) (by first | decide | omega), zb_s, L_gcd (Int.le_of_lt c0) (by first | decide | omega) (Int.le_of_lt b0) (by first | decide | omega) (by first | decide | omega), zb_s, if_pos (lI_n0 g1 (by unfold r64; omega)), if_pos (lI_n0 g2 (by unfold r64; omega)), zldv_e a0 (by first | decide | omega) g1 (by first | decide | omega), zldv_e (Int.le_of_lt c0) (by first | decide | omega) g2 (by first | decide | omega), zldv_e (Int.le_of_lt b0) (by first | decide | omega) g2 (by first | decide | omega), zldv_e (Int.le_of_lt d0) (by first | decide | omega) g1 (by first | decide | omega)]
  generalize gc a d = x at *
  generalize gc c b = y at *
  have qa : a / x = a' := by rw [ha, Int.mul_ediv_cancel_left _ (Int.ne_of_gt g1)]
  have qd : d / x = d' := by rw [hd, Int.mul_ediv_cancel_left _ (Int.ne_of_gt g1)]
  have qc : c / y = c' := by rw [hc, Int.mul_ediv_cancel_left _ (Int.ne_of_gt g2)]
  have qb : b / y = b' := by rw [hb', Int.mul_ediv_cancel_left _ (Int.ne_of_gt g2)]
  have pos : ∀ {s t u : Int}, 0 < s → 0 < u → u = s * t → 0 < t ∧ t ≤ u := fun {s t u} hs hu e => by
    have t0 : 0 < t := by
      rcases Int.lt_or_le 0 t with z | z
      · exact z
      · have := Int.mul_nonpos_of_nonneg_of_nonpos (Int.le_of_lt hs) z
        omega
    have := Int.mul_le_mul_of_nonneg_right (show (1 : Int) ≤ s by omega) (Int.le_of_lt t0)
    exact ⟨t0, (by first | decide | omega)⟩
  obtain ⟨d0', d1'⟩ := pos g1 d0 hd
  obtain ⟨c0', c1'⟩ := pos g2 c0 hc
  obtain ⟨b0', b1'⟩ := pos g2 b0 hb'
  have a0' : 0 ≤ a' ∧ a' ≤ a := by
    have t0 : 0 ≤ a' := by
      rcases Int.lt_or_le a' 0 with z | z
      · have := Int.mul_neg_of_pos_of_neg g1 z
        omega
      · exact z
    have := Int.mul_le_mul_of_nonneg_right (show (1 : Int) ≤ x by omega) t0
    exact ⟨t0, (by first | decide | omega)⟩
  rw [qa, qd, qc, qb]
  have u0 : 0 ≤ a' * c' := Int.mul_nonneg a0'.1 (by first | decide | omega)
  have u1 : a' * c' ≤ 2000000000000 * 81 := Int.mul_le_mul (by first | decide | omega) (by first | decide | omega) (by first | decide | omega) (by decide)
  have v0 : 0 < b' * d' := Int.mul_pos b0' d0'
  have v1 : b' * d' ≤ 812851200 * 81 := Int.mul_le_mul (by first | decide | omega) (by first | decide | omega) (by first | decide | omega) (by decide)
  have eq : a' * c' * WW = r * (b' * d') := by
    have : x * y * (a' * c' * WW) = x * y * (r * (b' * d')) := by
      calc x * y * (a' * c' * WW) = (x * a') * WW * (y * c') := by ac_rfl
        _ = a * WW * c := by rw [← ha, ← hc]
        _ = p * b * c := by rw [ab]
        _ = p * c * b := by ac_rfl
        _ = r * d * b := by rw [e]
        _ = r * (x * d') * (y * b') := by rw [← hd, ← hb']
        _ = x * y * (r * (b' * d')) := by ac_rfl
    exact Int.eq_of_mul_eq_mul_left (Int.ne_of_gt (Int.mul_pos g1 g2)) this
  rw [L_is u0 (by first | decide | omega) v0 (by first | decide | omega) (by first | decide | omega), zb_s]
  obtain ⟨r1, r2⟩ := red_u (W := WW) (by decide) r0 u0 v0 eq
  rw [r1, r2]
  rfl
/-- note i as both sides have written it -/
def NE (q v w : Int) (m : Nat) (Z : Int → Int → Prop) (B Bm : zB) (i : Int) : Prop := (B 4 q 360 i = Bm 13 w 30 (800 * v + i) ∧ -1 ≤ B 4 q 360 i ∧ B 4 q 360 i < m) ∧ (B 4 q 361 i = Bm 13 w 31 (800 * v + i) ∧ 0 ≤ B 4 q 361 i ∧ B 4 q 361 i ≤ 100) ∧ (0 ≤ B 4 q 9 i ∧ B 4 q 9 i ≤ 1000000000000 ∧ Bm 13 w 32 (800 * v + i) = nu (B 4 q 9 i) ∧ Bm 13 w 33 (800 * v + i) = de (B 4 q 9 i)) ∧ (B 4 q 364 i = Bm 13 w 34 (800 * v + i) ∧ 0 ≤ B 4 q 364 i ∧ B 4 q 364 i ≤ 9) ∧ (B 4 q 365 i = Bm 13 w 35 (800 * v + i) ∧ 0 ≤ B 4 q 365 i ∧ B 4 q 365 i ≤ 2) ∧ Z (B 4 q 361 i) (B 4 q 9 i)
def NW (q v w : Int) (m : Nat) (Z : Int → Int → Prop) (c : Int) (F : zF) (B Bm : zB) : Prop := (0 ≤ c ∧ c ≤ 800) ∧ F 4 q 10 = c ∧ F 4 q 11 = 0 ∧ Bm 13 w 13 v = c ∧ ∀ i, 0 ≤ i → i < c → NE q v w m Z B Bm i
def NX (q v w : Int) (F : zF) (Bm : zB) : Prop := F 4 q 10 = 800 ∧ F 4 q 11 = 1 ∧ Bm 13 w 13 v = 801
/-- what writing notes may change -/
def nF (q : Int) (F F' : zF) : Prop := ∀ c y k, ¬ (c = 4 ∧ y = q ∧ (k = 10 ∨ k = 11)) → F' c y k = F c y k
def nB (q : Int) (B B' : zB) : Prop := ∀ c y k x, ¬ (c = 4 ∧ y = q ∧ (k = 9 ∨ 360 ≤ k)) → B' c y k x = B c y k x
def nG (F F' : zF) : Prop := ∀ c y k, ¬ (c = 14 ∧ y = 0 ∧ (k ≤ 1 ∨ 52 ≤ k ∧ k ≤ 57)) → F' c y k = F c y k
def nM' (v w : Int) (B B' : zB) : Prop := ∀ c y k x, ¬ (c = 13 ∧ y = w ∧ k = 13 ∧ x = v) → ¬ (c = 13 ∧ y = w ∧ 30 ≤ k ∧ k ≤ 35 ∧ 800 * v ≤ x ∧ x < 800 * v + 800) → B' c y k x = B c y k x
theorem P_add {K : zK} {Km m : Nat} {Z : Int → Int → Prop} {q v w ev bar pl val fo po : Int} {F : zF} {B : zB} {Fm : zF} {Bm : zB} (h4 : 0 ≤ q ∧ q < K.2 4) (v0 : 0 ≤ v ∧ v < 4) (w0 : 0 ≤ w ∧ w < 3) (he : -1 ≤ ev ∧ ev < m) (hb : 0 ≤ bar ∧ bar ≤ 100) (hp : 0 ≤ pl ∧ pl ≤ 1000000000000) (hv : 0 ≤ val ∧ val ≤ 29) (hfo : fo = val / 3) (hpo : po = 2 - val % 3) (h54 : Fm 14 0 54 = nu pl) (h55 : Fm 14 0 55 = de pl) (hZ : Z bar pl) {c : Int} (hN : NW q v w m Z c F B Bm) : ∃ F' B' Bm', f_Part_addNote K q ev bar pl val F B = some (0, F', B') ∧ f_M_note_1 Km w v ev bar fo po Fm Bm = some (0, Fm, Bm') ∧ nF q F F' ∧ nB q B B' ∧ nM' v w Bm Bm' ∧ ((c < 800 ∧ NW q v w m Z (c + 1) F' B' Bm') ∨ NX q v w F' Bm') := by
  obtain ⟨c0, n10, n11, n13, hne⟩ := hN
  have zd : zdv val 3 = fo := by rw [zdv_e hv.1 (by unfold r32; omega) (by decide) (by decide)]; exact hfo.symm
  have zm : 2 - zrm val 3 = po := by rw [zrm_e hv.1 (by unfold r32; omega) (by decide) (by decide)]; exact hpo.symm
  have e13 : (zup4 Bm 13 w 13 v (c + 1)) 13 w 13 v = c + 1 := by rw [zup4_v, if_pos (by first | decide | omega)]
  unfold f_Part_addNote f_M_note_1
  rw [if_pos h4, n10, if_pos (show r32 c by unfold r32; omega), if_pos w0, if_pos v0, n13, e13, if_pos (show r32 (c + 1) by unfold r32; omega), zd, zm]
  by_cases z : c < 800
  · rw [if_pos z, if_pos (show 0 ≤ c ∧ c < 800 by omega), if_pos (show c + 1 ≤ 800 by omega), if_pos (show 0 ≤ 800 * v + c ∧ 800 * v + c < 3200 by omega), h54, h55]
    generalize hB' : zup4 (zup4 (zup4 (zup4 (zup4 B 4 q 360 c ev) 4 q 361 c bar) 4 q 9 c pl) 4 q 364 c fo) 4 q 365 c po = B'
    generalize hM' : zup4 (zup4 (zup4 (zup4 (zup4 (zup4 (zup4 Bm 13 w 13 v (c + 1)) 13 w 30 (800 * v + c) ev) 13 w 31 (800 * v + c) bar) 13 w 32 (800 * v + c) (nu pl)) 13 w 33 (800 * v + c) (de pl)) 13 w 34 (800 * v + c) fo) 13 w 35 (800 * v + c) po = M'
    have bn : ∀ d y k x, ¬ (d = 4 ∧ y = q ∧ (k = 9 ∨ k = 360 ∨ k = 361 ∨ k = 364 ∨ k = 365) ∧ x = c) → B' d y k x = B d y k x := fun d y k x h => by rw [← hB', zup4_v, if_neg (by first | decide | omega), zup4_v, if_neg (by first | decide | omega), zup4_v, if_neg (by first | decide | omega), zup4_v, if_neg (by first | decide | omega), zup4_v, if_neg (by first | decide | omega)]
    have mn : ∀ d y k x, ¬ (d = 13 ∧ y = w ∧ k = 13 ∧ x = v) → ¬ (d = 13 ∧ y = w ∧ (30 ≤ k ∧ k ≤ 35) ∧ x = 800 * v + c) → M' d y k x = Bm d y k x := fun d y k x h h' => by rw [← hM', zup4_v, if_neg (by first | decide | omega), zup4_v, if_neg (by first | decide | omega), zup4_v, if_neg (by first | decide | omega), zup4_v, if_neg (by first | decide | omega), zup4_v, if_neg (by first | decide | omega), zup4_v, if_neg (by first | decide | omega), zup4_v, if_neg (by first | decide | omega)]
    refine ⟨_, B', M', rfl, rfl, fun d y k h => by rw [zup3_v, if_neg (by first | decide | omega)], fun d y k x h => bn d y k x (by first | decide | omega), fun d y k x h h' => mn d y k x h (by first | decide | omega), Or.inl ⟨z, (by first | decide | omega), by rw [zup3_v, if_pos (by first | decide | omega)], by rw [zup3_v, if_neg (by first | decide | omega)]; exact n11, ?_, fun i i0 i1 => ?_⟩⟩
    · rw [← hM', zup4_v, if_neg (by first | decide | omega), zup4_v, if_neg (by first | decide | omega), zup4_v, if_neg (by first | decide | omega), zup4_v, if_neg (by first | decide | omega), zup4_v, if_neg (by first | decide | omega), zup4_v, if_neg (by first | decide | omega), zup4_v, if_pos (by first | decide | omega)]
    · by_cases y : i = c
      · subst y
        have b360 : B' 4 q 360 i = ev := by rw [← hB']; simp [zup4_v]
        have b361 : B' 4 q 361 i = bar := by rw [← hB']; simp [zup4_v]
        have b9 : B' 4 q 9 i = pl := by rw [← hB']; simp [zup4_v]
        have b364 : B' 4 q 364 i = fo := by rw [← hB']; simp [zup4_v]
        have b365 : B' 4 q 365 i = po := by rw [← hB']; simp [zup4_v]
        have m30 : M' 13 w 30 (800 * v + i) = ev := by rw [← hM']; simp [zup4_v]
        have m31 : M' 13 w 31 (800 * v + i) = bar := by rw [← hM']; simp [zup4_v]
        have m32 : M' 13 w 32 (800 * v + i) = nu pl := by rw [← hM']; simp [zup4_v]
        have m33 : M' 13 w 33 (800 * v + i) = de pl := by rw [← hM']; simp [zup4_v]
        have m34 : M' 13 w 34 (800 * v + i) = fo := by rw [← hM']; simp [zup4_v]
        have m35 : M' 13 w 35 (800 * v + i) = po := by rw [← hM']; simp [zup4_v]
        unfold NE
        rw [b360, b361, b9, b364, b365, m30, m31, m32, m33, m34, m35]
        exact ⟨⟨rfl, he⟩, ⟨rfl, hb⟩, ⟨hp.1, hp.2, rfl, rfl⟩, ⟨rfl, (by first | decide | omega), (by first | decide | omega)⟩, ⟨rfl, (by first | decide | omega), (by first | decide | omega)⟩, hZ⟩
      · have := hne i i0 (by first | decide | omega)
        unfold NE at this ⊢
        rw [bn 4 q 360 i (by first | decide | omega), bn 4 q 361 i (by first | decide | omega), bn 4 q 9 i (by first | decide | omega), bn 4 q 364 i (by first | decide | omega), bn 4 q 365 i (by first | decide | omega), mn 13 w 30 _ (by first | decide | omega) (by first | decide | omega), mn 13 w 31 _ (by first | decide | omega) (by first | decide | omega), mn 13 w 32 _ (by first | decide | omega) (by first | decide | omega), mn 13 w 33 _ (by first | decide | omega) (by first | decide | omega), mn 13 w 34 _ (by first | decide | omega) (by first | decide | omega), mn 13 w 35 _ (by first | decide | omega) (by first | decide | omega)]
        exact this
  · rw [if_neg z, if_neg (show ¬ c + 1 ≤ 800 by omega)]
    refine ⟨_, B, _, rfl, rfl, fun d y k h => by rw [zup3_v, if_neg (by first | decide | omega)], fun _ _ _ _ _ => rfl, fun d y k x h h' => by rw [zup4_v, if_neg (by first | decide | omega)], Or.inr ⟨by rw [zup3_v, if_neg (by first | decide | omega)]; omega, by rw [zup3_v, if_pos (by first | decide | omega)], by rw [zup4_v, if_pos (by first | decide | omega)]; omega⟩⟩
end
end
section
section
/-! ===== outside brackets everything is a multiple of 4 parts of 512 ===== -/
theorem bw_4 {p f t T : Int} (hp : p % 4 = 0) (f4 : f % 4 = 0) (T4 : T % 4 = 0) (h1 : T - 4 < t) (h2 : t ≤ T) : bw p f (f + T) ↔ bw p f (f + t) := by
  obtain ⟨p', rfl⟩ : ∃ p', p = 4 * p' := ⟨p / 4, (by first | decide | omega)⟩
  show (f / (4 * p') + 1) * (4 * p') < f + T ↔ (f / (4 * p') + 1) * (4 * p') < f + t
  have e : (f / (4 * p') + 1) * (4 * p') = 4 * ((f / (4 * p') + 1) * p') := by ac_rfl
  rw [e]
  generalize (f / (4 * p') + 1) * p' = z
  omega
theorem u_4 {u : Int} (hu : u = 256 ∨ u = 128 ∨ u = 64 ∨ u = 32) : u % 4 = 0 ∧ u / 2 % 4 = 0 ∧ u / 4 % 4 = 0 ∧ u / 8 % 4 = 0 ∧ (u / 16 % 4 = 0 ∨ (u = 32 ∧ u / 16 = 2)) := by
  rcases hu with rfl | rfl | rfl | rfl <;> decide
theorem u_32 {u n : Int} (hu : u = 256 ∨ u = 128 ∨ u = 64 ∨ u = 32) : ∃ y, u * n = 32 * y := by
  rcases hu with rfl | rfl | rfl | rfl
  · exact ⟨8 * n, (by first | decide | omega)⟩
  · exact ⟨4 * n, (by first | decide | omega)⟩
  · exact ⟨2 * n, (by first | decide | omega)⟩
  · exact ⟨n, rfl⟩
theorem ifc {b c : Prop} [Decidable b] [Decidable c] {x u y v : Int} (h : b ↔ c) (h1 : x = u) (h2 : y = v) : (if b then x else y) = (if c then u else v) := by
  by_cases z : b
  · rw [if_pos z, if_pos (h.mp z)]; exact h1
  · rw [if_neg z, if_neg (fun t => z (h.mpr t))]; exact h2
theorem bt_4 {n d f t T : Int} (hd : d = 2 ∨ d = 4 ∨ d = 8 ∨ d = 16) (f4 : f % 4 = 0) (T4 : T % 4 = 0) (h1 : T - 4 < t) (h2 : t ≤ T) (t2 : 2 < t) : bt n d f (f + T) = bt n d f (f + t) := by
  have hu := un_d hd
  obtain ⟨y, hy⟩ := u_32 (n := n) hu
  obtain ⟨b, hb⟩ := u_32 (n := bc n d) hu
  obtain ⟨u0, u1, u2, u3, u4⟩ := u_4 hu
  unfold bt bt5
  rw [hy, hb]
  generalize 512 / d = u at *
  refine ifc (by first | decide | omega) rfl (ifc (bw_4 (by first | decide | omega) f4 T4 h1 h2) rfl (ifc (bw_4 u0 f4 T4 h1 h2) rfl (ifc (bw_4 u1 f4 T4 h1 h2) rfl (ifc (bw_4 u2 f4 T4 h1 h2) rfl (ifc (bw_4 u3 f4 T4 h1 h2) rfl (ifc ?_ rfl rfl))))))
  rcases u4 with u4 | ⟨_, u4⟩
  · exact bw_4 u4 f4 T4 h1 h2
  · rw [u4]
    show (f / 2 + 1) * 2 < f + T ↔ (f / 2 + 1) * 2 < f + t
    omega
theorem m_4 {a p : Int} (hp : p % 4 = 0) (h : ¬ a % 4 = 0) : ¬ a % p = 0 := by
  obtain ⟨p', rfl⟩ : ∃ p', p = 4 * p' := ⟨p / 4, (by first | decide | omega)⟩
  intro z
  have e := Int.mul_ediv_add_emod a (4 * p')
  rw [z, show 4 * p' * (a / (4 * p')) = 4 * (p' * (a / (4 * p'))) by ac_rfl] at e
  generalize p' * (a / (4 * p')) = y at e
  omega
theorem st_4 {n d f a : Int} (hd : d = 2 ∨ d = 4 ∨ d = 8 ∨ d = 16) (f4 : f % 4 = 0) (a4 : ¬ a % 4 = 0) : st n d a ≤ st n d f := by
  have hu := un_d hd
  have sb := st_b (n := n) (d := d) (a := f)
  obtain ⟨y, hy⟩ := u_32 (n := n) hu
  obtain ⟨b, hb⟩ := u_32 (n := bc n d) hu
  obtain ⟨u0, u1, u2, u3, u4⟩ := u_4 hu
  have e : st n d a = if a % (512 / d / 16) = 0 then 2 else 1 := by
    unfold st st5
    rw [hy, hb, if_neg (by first | decide | omega), if_neg (by first | decide | omega), if_neg (m_4 (by first | decide | omega) a4)]
    generalize 512 / d = u at *
    rw [if_neg (m_4 u0 a4), if_neg (m_4 u1 a4), if_neg (m_4 u2 a4), if_neg (m_4 u3 a4)]
  rw [e]
  rcases u4 with u4 | ⟨u5, u4⟩
  · rw [if_neg (m_4 u4 a4)]; omega
  · have : 3 ≤ st n d f := by
      unfold st st5
      rw [u5]
      rw [show (32 : Int) / 8 = 4 by decide, if_pos f4]
      split
      · decide
      · split
        · decide
        · split
          · decide
          · split
            · decide
            · split
              · decide
              · split <;> decide
    split <;> omega
theorem sd_4 {n d f t T : Int} (hd : d = 2 ∨ d = 4 ∨ d = 8 ∨ d = 16) (f4 : f % 4 = 0) (T4 : T % 4 = 0) (h1 : T - 4 < t) (h2 : t < T) (t2 : 2 < t) (h : bt n d f (f + t) ≤ mx (st n d f) (st n d (f + t))) : bt n d f (f + T) ≤ mx (st n d f) (st n d (f + T)) := by
  rw [bt_4 hd f4 T4 h1 (by first | decide | omega) t2]
  have s := st_4 (n := n) (d := d) (f := f) (a := f + t) hd f4 (by first | decide | omega)
  unfold mx at h ⊢
  have : bt n d f (f + t) ≤ st n d f := by
    by_cases c : st n d f ≤ st n d (f + t)
    · rw [if_pos c] at h; omega
    · rw [if_neg c] at h; exact h
  split <;> omega
theorem fv_4 : (∀ k : Fin 24, fv (k.val : Int) % 4 = 0 ∨ k.val = 18 ∨ k.val = 21 ∨ k.val = 22) ∧ fv 17 = 16 ∧ fv 18 = 14 ∧ fv 20 = 8 ∧ fv 21 = 7 ∧ fv 22 = 6 ∧ fv 23 = 4 := by decide +kernel
theorem fv_m {k : Int} (h0 : 0 ≤ k) (h1 : k < 24) : fv k % 4 = 0 ∨ k = 18 ∨ k = 21 ∨ k = 22 := by
  have h := fv_4.1 ⟨k.toNat, (by first | decide | omega)⟩
  rw [show (((⟨k.toNat, (by first | decide | omega)⟩ : Fin 24).val : Nat) : Int) = k by show ((k.toNat : Nat) : Int) = k; omega] at h
  rcases h with h | h | h | h
  · exact Or.inl h
  · have : k.toNat = 18 := h
    omega
  · have : k.toNat = 21 := h
    omega
  · have : k.toNat = 22 := h
    omega
theorem gv_4 {l : Int} (l0 : 0 < l) (l4 : l % 4 = 0) : fv (gvF l) ≤ l ∧ fv (gvF l) % 4 = 0 ∧ 0 ≤ fsN (fun k => decide (fv k ≤ l)) 24 0 := by
  obtain ⟨_, f17, f18, f20, f21, f22, f23⟩ := fv_4
  have nn := fsN_n (P := fun k => decide (fv k ≤ l)) 24 (k := 0) (Int.le_refl _)
  have P : ∀ j : Int, 0 ≤ j → j < 24 → fv j ≤ l → ¬ (j < fsN (fun k => decide (fv k ≤ l)) 24 0 ∨ fsN (fun k => decide (fv k ≤ l)) 24 0 < 0) := fun j a b c h => by
    have := nn j a (by first | decide | omega) h
    have : decide (fv j ≤ l) = false := this
    exact absurd c (of_decide_eq_false this)
  have p23 := P 23 (by decide) (by decide) (by first | decide | omega)
  unfold gvF
  rcases fsN_r (P := fun k => decide (fv k ≤ l)) 24 (k := 0) (Int.le_refl _) with h | ⟨h1, h2, h3⟩
  · exact absurd (Or.inr (by rw [h]; decide)) p23
  · have h3' : fv (fsN (fun k => decide (fv k ≤ l)) 24 0) ≤ l := of_decide_eq_true h3
    generalize fsN (fun k => decide (fv k ≤ l)) 24 0 = r at *
    rw [if_neg (by first | decide | omega)]
    refine ⟨h3', ?_, h1⟩
    rcases fv_m h1 (by first | decide | omega) with z | z | z | z
    · exact z
    · exfalso; rw [z] at h3' P; exact P 17 (by decide) (by decide) (by first | decide | omega) (Or.inl (by decide))
    · exfalso; rw [z] at h3' P; exact P 20 (by decide) (by decide) (by first | decide | omega) (Or.inl (by decide))
    · exfalso; rw [z] at h3' P; exact P 20 (by decide) (by decide) (by first | decide | omega) (Or.inl (by decide))
theorem nv_4 {n d f l : Int} (hd : d = 2 ∨ d = 4 ∨ d = 8 ∨ d = 16) (f4 : f % 4 = 0) (l0 : 0 < l) (l4 : l % 4 = 0) : fv (nvF n d f l) ≤ l ∧ fv (nvF n d f l) % 4 = 0 := by
  obtain ⟨_, f17, f18, f20, f21, f22, f23⟩ := fv_4
  have nn := fsN_n (P := fun k => decide (fv k ≤ l ∧ stnd n d f k)) 24 (k := 0) (Int.le_refl _)
  have P : ∀ j : Int, 0 ≤ j → j < 24 → fv j ≤ l ∧ stnd n d f j → ¬ (j < fsN (fun k => decide (fv k ≤ l ∧ stnd n d f k)) 24 0 ∨ fsN (fun k => decide (fv k ≤ l ∧ stnd n d f k)) 24 0 < 0) := fun j a b c h => by
    have := nn j a (by first | decide | omega) h
    have : decide (fv j ≤ l ∧ stnd n d f j) = false := this
    exact absurd c (of_decide_eq_false this)
  unfold nvF
  rcases fsN_r (P := fun k => decide (fv k ≤ l ∧ stnd n d f k)) 24 (k := 0) (Int.le_refl _) with h | ⟨h1, h2, h3⟩
  · rw [h, if_pos (by decide)]
    exact ⟨(gv_4 l0 l4).1, (gv_4 l0 l4).2.1⟩
  · have h3' : fv (fsN (fun k => decide (fv k ≤ l ∧ stnd n d f k)) 24 0) ≤ l ∧ stnd n d f (fsN (fun k => decide (fv k ≤ l ∧ stnd n d f k)) 24 0) := of_decide_eq_true h3
    generalize fsN (fun k => decide (fv k ≤ l ∧ stnd n d f k)) 24 0 = r at *
    rw [if_neg (by first | decide | omega)]
    obtain ⟨q1, q2⟩ := h3'
    refine ⟨q1, ?_⟩
    rcases fv_m h1 (by first | decide | omega) with z | z | z | z
    · exact z
    · exfalso
      rw [z] at q1 q2 P
      have s : bt n d f (f + fv 18) ≤ mx (st n d f) (st n d (f + fv 18)) := q2
      rw [f18] at s
      refine P 17 (by decide) (by decide) ⟨(by first | decide | omega), ?_⟩ (Or.inl (by decide))
      show bt n d f (f + fv 17) ≤ mx (st n d f) (st n d (f + fv 17))
      rw [f17]
      exact sd_4 hd f4 (by decide) (by decide) (by decide) (by decide) s
    · exfalso
      rw [z] at q1 q2 P
      have s : bt n d f (f + fv 21) ≤ mx (st n d f) (st n d (f + fv 21)) := q2
      rw [f21] at s
      refine P 20 (by decide) (by decide) ⟨(by first | decide | omega), ?_⟩ (Or.inl (by decide))
      show bt n d f (f + fv 20) ≤ mx (st n d f) (st n d (f + fv 20))
      rw [f20]
      exact sd_4 hd f4 (by decide) (by decide) (by decide) (by decide) s
    · exfalso
      rw [z] at q1 q2 P
      have s : bt n d f (f + fv 22) ≤ mx (st n d f) (st n d (f + fv 22)) := q2
      rw [f22] at s
      refine P 20 (by decide) (by decide) ⟨(by first | decide | omega), ?_⟩ (Or.inl (by decide))
      show bt n d f (f + fv 20) ≤ mx (st n d f) (st n d (f + fv 20))
      rw [f20]
      exact sd_4 hd f4 (by decide) (by decide) (by decide) (by decide) s
end
end
