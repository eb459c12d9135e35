section
/-! ===== a pitch carried through the moves and mirrors around ===== -/
theorem L_tonP {K : Nat} {s a : Int} {F : zF} {B : zB} (h0 : 0 ≤ s) (h1 : s ≤ 62) : f_M_tone K s a F B = some (tnv s + a, F, B) := by
  have h := nat_f ⟨s.toNat, (by first | decide | omega)⟩
  rw [show (((⟨s.toNat, (by first | decide | omega)⟩ : Fin 63).val : Nat) : Int) = s by show ((s.toNat : Nat) : Int) = s; omega] at h
  obtain ⟨_, _, d, r, _⟩ := h
  unfold f_M_tone f_M_tone_18 tnv
  rw [r, d, if_pos (by unfold r32; omega)]
  by_cases c : s % 7 ≤ 2
  · rw [if_pos c, if_pos c]
  · rw [if_neg c, if_neg c]
/-- what the class keeps of a move or a mirror, and the reference -/
def CRk (B Bm : zB) (k : Int) : Prop := ((Bm 14 0 42 k = 0 ∧ B 11 0 15 k = 1 ∧ B 11 0 16 k = Bm 14 0 43 k ∧ B 11 0 17 k = Bm 14 0 44 k) ∨ (Bm 14 0 42 k = 1 ∧ B 11 0 15 k = -1 ∧ B 11 0 16 k = 2 * Bm 14 0 43 k ∧ B 11 0 17 k = 2 * Bm 14 0 44 k)) ∧ (-200 ≤ B 11 0 16 k ∧ B 11 0 16 k ≤ 200) ∧ (-500 ≤ B 11 0 17 k ∧ B 11 0 17 k ≤ 500)
abbrev okP (s t : Int) : Prop := (0 ≤ s ∧ s ≤ 62) ∧ (-2 ≤ t - tnv s ∧ t - tnv s ≤ 2)
def crr (B : zB) : Nat → Int → Int → Option (Int × Int)
  | 0, s, t => some (s, t)
  | n + 1, s, t => if okP (B 11 0 16 n + B 11 0 15 n * s) (B 11 0 17 n + B 11 0 15 n * t) then crr B n (B 11 0 16 n + B 11 0 15 n * s) (B 11 0 17 n + B 11 0 15 n * t) else none
theorem crr_ok {B : zB} : ∀ {n : Nat} {s t s' t' : Int}, okP s t → crr B n s t = some (s', t') → okP s' t' := by
  intro n
  induction n with
  | zero =>
    intro s t s' t' h e
    simp only [crr, Option.some.injEq, Prod.mk.injEq] at e
    rw [← e.1, ← e.2]
    exact h
  | succ n ih =>
    intro s t s' t' h e
    simp only [crr] at e
    by_cases c : okP (B 11 0 16 n + B 11 0 15 n * s) (B 11 0 17 n + B 11 0 15 n * t)
    · rw [if_pos c] at e
      exact ih c e
    · rw [if_neg c] at e
      exact absurd e (by simp)
def crC (K : zK) (e pt : Int) (F : zF) (B : zB) : Option (Int × Int) → zO
  | some (s, t) => f_Walker_addPitch_122 K 1 t s 0 e pt F B
  | none => f_Walker_addPitch_142 K 0 pt F B
theorem C37x {K : zK} {e pt l t s : Int} {F : zF} {B : zB} {m : Nat} (hl : r32 l) : f_Walker_addPitch_37 K (m + 1) l 0 t s 0 e pt F B = f_Walker_addPitch_142 K 0 pt F B := by
  have z : ∀ F B, f_Walker_addPitch_122 K 0 t s 0 e pt F B = f_Walker_addPitch_142 K 0 pt F B := fun F B => by
    unfold f_Walker_addPitch_122
    rw [if_pos (by decide), if_pos rfl]
  unfold f_Walker_addPitch_37
  rw [if_pos hl]
  by_cases c : l < 0
  · rw [if_pos c, z]
  · rw [if_neg c, if_pos (by decide), if_pos rfl, z]
theorem C37 {K : zK} {e pt : Int} {F : zF} {B Bm : zB} (h11 : 0 < K.2 11) : ∀ (n m : Nat) {s t : Int}, n + 1 < m → n ≤ 64 → (∀ k, 0 ≤ k → k < n → CRk B Bm k) → okP s t → f_Walker_addPitch_37 K m ((n : Int) - 1) 1 t s 0 e pt F B = crC K e pt F B (crr B n s t) := by
  intro n
  induction n with
  | zero =>
    intro m s t hm h64 hc ok
    obtain ⟨m, rfl⟩ : ∃ x, m = x + 1 := ⟨m - 1, (by first | decide | omega)⟩
    unfold f_Walker_addPitch_37
    rw [if_pos (by decide), if_pos (by decide)]
    rfl
  | succ n ih =>
    intro m s t hm h64 hc ok
    obtain ⟨m, rfl⟩ : ∃ x, m = x + 1 := ⟨m - 1, (by first | decide | omega)⟩
    obtain ⟨m', rfl⟩ : ∃ x, m = x + 1 := ⟨m - 1, (by first | decide | omega)⟩
    have hk := hc n (by first | decide | omega) (by first | decide | omega)
    obtain ⟨⟨s0, s1⟩, t0, t1⟩ := ok
    have tb := tnv_b s0 s1
    rw [show ((n + 1 : Nat) : Int) - 1 = (n : Int) by omega, crr]
    have bs : -300 ≤ B 11 0 16 n + B 11 0 15 n * s ∧ B 11 0 16 n + B 11 0 15 n * s ≤ 300 := by
      obtain ⟨hh, b1, b2⟩ := hk
      rcases hh with ⟨_, e, _⟩ | ⟨_, e, _⟩ <;> rw [e] <;> omega
    have bt : -1000 ≤ B 11 0 17 n + B 11 0 15 n * t ∧ B 11 0 17 n + B 11 0 15 n * t ≤ 1000 := by
      obtain ⟨hh, b1, b2⟩ := hk
      rcases hh with ⟨_, e, _⟩ | ⟨_, e, _⟩ <;> rw [e] <;> omega
    generalize hs : B 11 0 16 n + B 11 0 15 n * s = s' at bs ⊢
    generalize ht : B 11 0 17 n + B 11 0 15 n * t = t' at bt ⊢
    unfold f_Walker_addPitch_37 f_Walker_addPitch_113 f_Walker_addPitch_114
    rw [if_pos (by unfold r32; omega), if_neg (by first | decide | omega), if_pos (by decide), if_neg (by decide), if_pos ⟨Int.le_refl _, h11⟩, if_pos (by first | decide | omega), hs, ht, if_pos (by unfold r32; omega)]
    by_cases c1 : s' < 0
    · rw [if_pos c1, C37x (by unfold r32; omega), if_neg (fun z => by have := z.1; omega)]
      rfl
    rw [if_neg c1]
    by_cases c2 : 63 ≤ s'
    · rw [if_pos c2, C37x (by unfold r32; omega), if_neg (fun z => by have := z.1; omega)]
      rfl
    have tb' := tnv_b (s := s') (by first | decide | omega) (by first | decide | omega)
    have za : zabs (t' - tnv s') = t' - tnv s' ∨ zabs (t' - tnv s') = -(t' - tnv s') := by unfold zabs; split <;> omega
    have zn : 0 ≤ zabs (t' - tnv s') := by unfold zabs; split <;> omega
    rw [if_neg c2, C_nat (by first | decide | omega) (by first | decide | omega), zb_s, if_pos (by unfold r32; omega), if_pos (by unfold r32; omega)]
    by_cases c3 : 2 < zabs (t' - tnv s')
    · rw [if_pos c3, C37x (by unfold r32; omega), if_neg (fun z => by have := z.2; omega)]
      rfl
    · have ok' : okP s' t' := ⟨(by first | decide | omega), (by first | decide | omega)⟩
      rw [if_neg c3, if_pos ok', ih (m' + 1) (by first | decide | omega) (by first | decide | omega) (fun k a b => hc k a (by first | decide | omega)) ok']
def crM (K : Nat) (x p : Int) (F : zF) (B : zB) : Option (Int × Int) → zO
  | some (s, t) => f_M_pitchOf_184 K K (6 * x) (6 * x + B 13 (F 14 0 6) 21 x) (6 * x) t s x p F B
  | none => f_M_pitchOf_146 K p F B
theorem L32 {K : Nat} {x p : Int} {F : zF} {B Bm : zB} (h6 : 0 ≤ F 14 0 6 ∧ F 14 0 6 < 3) (hx : 0 ≤ x ∧ x < 4000) : ∀ (n m : Nat) {s t : Int}, n < m → n ≤ 64 → (∀ k, 0 ≤ k → k < n → CRk B Bm k) → okP s t → f_M_pitchOf_32 K m ((n : Int) - 1) t s x p F Bm = crM K x p F Bm (crr B n s t) := by
  intro n
  induction n with
  | zero =>
    intro m s t hm h64 hc ok
    obtain ⟨m, rfl⟩ : ∃ x, m = x + 1 := ⟨m - 1, (by first | decide | omega)⟩
    unfold f_M_pitchOf_32
    rw [if_pos (by decide), if_pos (by decide), if_pos h6, if_pos hx]
    rfl
  | succ n ih =>
    intro m s t hm h64 hc ok
    obtain ⟨m, rfl⟩ : ∃ x, m = x + 1 := ⟨m - 1, (by first | decide | omega)⟩
    have hk := hc n (by first | decide | omega) (by first | decide | omega)
    obtain ⟨⟨s0, s1⟩, t0, t1⟩ := ok
    have tb := tnv_b s0 s1
    rw [show ((n + 1 : Nat) : Int) - 1 = (n : Int) by omega, crr]
    have fin : ∀ s' t', -300 ≤ s' → s' ≤ 300 → -1000 ≤ t' → t' ≤ 1000 → f_M_pitchOf_106 (f_M_pitchOf_32 K m) K s' n x p t' F Bm = crM K x p F Bm (if okP s' t' then crr B n s' t' else none) := by
      intro s' t' b1 b2 b3 b4
      unfold f_M_pitchOf_106 f_M_pitchOf_118 f_M_pitchOf_131
      rw [if_pos (by unfold r32; omega)]
      by_cases c1 : s' < 0
      · rw [if_pos c1, if_pos (by decide), if_neg (by decide), if_neg (by decide), if_neg (fun z => by have := z.1; omega)]
        rfl
      rw [if_neg c1]
      by_cases c2 : s' ≤ 62
      case neg =>
        rw [if_neg c2, if_pos (by decide), if_neg (by decide), if_neg (by decide), if_neg (fun z => by have := z.1; omega)]
        rfl
      have tb' := tnv_b (s := s') (by first | decide | omega) c2
      rw [if_pos c2, L_tonP (by first | decide | omega) c2, zb_s, Int.add_zero, if_pos (by unfold r32; omega)]
      by_cases c3 : t' - tnv s' < -2
      · rw [if_pos c3, if_neg (fun z => by have := z.2; omega)]
        rfl
      rw [if_neg c3]
      by_cases c4 : t' - tnv s' ≤ 2
      · have ok' : okP s' t' := ⟨(by first | decide | omega), (by first | decide | omega)⟩
        rw [if_pos c4, if_pos ok', ih m (by first | decide | omega) (by first | decide | omega) (fun k a b => hc k a (by first | decide | omega)) ok']
      · rw [if_neg c4, if_neg (fun z => by have := z.2; omega)]
        rfl
    unfold f_M_pitchOf_32 f_M_pitchOf_70
    rw [if_pos (by unfold r32; omega), if_neg (by first | decide | omega), if_pos (by first | decide | omega), if_pos (by rcases hk.1 with ⟨e, _⟩ | ⟨e, _⟩ <;> rw [e] <;> decide)]
    obtain ⟨hh, b1, b2⟩ := hk
    rcases hh with ⟨e, e1, e2, e3⟩ | ⟨e, e1, e2, e3⟩
    · rw [if_pos e, if_pos (by first | decide | omega), if_pos (by rw [e]; decide), if_pos e, fin _ _ (by first | decide | omega) (by first | decide | omega) (by first | decide | omega) (by first | decide | omega), e1, e2, e3, Int.one_mul, Int.one_mul, Int.add_comm s, Int.add_comm t]
    · rw [if_neg (by first | decide | omega), if_pos (by first | decide | omega), if_pos (by rw [e]; decide), if_neg (by first | decide | omega), fin _ _ (by first | decide | omega) (by first | decide | omega) (by first | decide | omega) (by first | decide | omega), e1, e2, e3, show 2 * Bm 14 0 43 n + -1 * s = 2 * Bm 14 0 43 n - s by omega, show 2 * Bm 14 0 44 n + -1 * t = 2 * Bm 14 0 44 n - t by omega]
end
