/-! ===== runs: counts, numbers, words ===== -/
theorem runE_f {t : Int → Int} {n : Int} : ∀ {f g : Nat} {p : Int}, n - p < f → n - p < g → runE t n f p = runE t n g p := by
  intro f
  induction f with
  | zero =>
    intro g p a b
    match g with
    | 0 => rfl
    | g + 1 =>
      unfold runE
      rw [if_pos (by omega)]
  | succ f ih =>
    intro g p a b
    match g with
    | 0 =>
      unfold runE
      rw [if_pos (by omega)]
    | g + 1 =>
      unfold runE
      by_cases h : n ≤ p
      · rw [if_pos h, if_pos h]
      · rw [if_neg h, if_neg h]
        by_cases q : bRun (t p) = 0
        · rw [if_pos q, if_pos q]
        · rw [if_neg q, if_neg q]
          exact ih (by omega) (by omega)
/-- how many of the m bytes from p on -/
def cnt (g t : Int → Int) (p : Int) : Nat → Int
  | 0 => 0
  | m + 1 => cnt g t p m + g (t (p + m))
/-- the number that the m bytes from p on make -/
def nmv (t : Int → Int) (base zero p : Int) : Nat → Int
  | 0 => 0
  | m + 1 => nmv t base zero p m * base + t (p + m) - zero
def wrd (t : Int → Int) (p : Int) : Nat → Int
  | 0 => 0
  | m + 1 => zlor (zlshl (wrd t p m) 8) (t (p + m))
theorem runS_all {t : Int → Int} {n p0 : Int} : ∀ {f m : Nat}, runS t n f (wrd t p0 m) (cnt bDig t p0 m) (cnt bLet t p0 m) (p0 + m) = (wrd t p0 (runE t n f (p0 + m) - p0).toNat, cnt bDig t p0 (runE t n f (p0 + m) - p0).toNat, cnt bLet t p0 (runE t n f (p0 + m) - p0).toNat, runE t n f (p0 + m)) := by
  intro f
  induction f with
  | zero =>
    intro m
    unfold runS runE
    rw [show (p0 + (m : Int) - p0).toNat = m by omega]
  | succ f ih =>
    intro m
    unfold runS runE
    by_cases a : n ≤ p0 + m
    · rw [if_pos a, if_pos a, show (p0 + (m : Int) - p0).toNat = m by omega]
    · rw [if_neg a, if_neg a]
      by_cases b : bRun (t (p0 + m)) = 0
      · rw [if_pos b, if_pos b, show (p0 + (m : Int) - p0).toNat = m by omega]
      · rw [if_neg b, if_neg b]
        have h := ih (m := m + 1)
        rw [show p0 + ((m + 1 : Nat) : Int) = p0 + (m : Int) + 1 by omega] at h
        exact h
theorem joinS_e {t : Int → Int} {fr base zero size : Int} : ∀ {f m : Nat}, (m : Int) ≤ size → size - m < f → joinS t fr base zero f m (nmv t base zero fr m) size = nmv t base zero fr size.toNat := by
  intro f
  induction f with
  | zero => intro m a b; omega
  | succ f ih =>
    intro m a b
    unfold joinS
    by_cases h : size ≤ m
    · rw [if_pos h, show size.toNat = m by omega]
    · rw [if_neg h]
      have := ih (m := m + 1) (by omega) (by omega)
      rw [show ((m + 1 : Nat) : Int) = (m : Int) + 1 by omega] at this
      exact this
theorem cnt_le {g t : Int → Int} {p : Int} (hg : ∀ b, 0 ≤ g b ∧ g b ≤ 1) : ∀ {m : Nat}, 0 ≤ cnt g t p m ∧ cnt g t p m ≤ m := by
  intro m
  induction m with
  | zero => exact ⟨by unfold cnt; omega, by unfold cnt; omega⟩
  | succ m ih =>
    unfold cnt
    have := hg (t (p + m))
    omega
theorem cnt_all {g t : Int → Int} {p : Int} (hg : ∀ b, 0 ≤ g b ∧ g b ≤ 1) : ∀ {m : Nat}, cnt g t p m = m → ∀ {j : Nat}, j < m → g (t (p + j)) = 1 := by
  intro m
  induction m with
  | zero => intro _ j hj; omega
  | succ m ih =>
    intro h j hj
    unfold cnt at h
    have h1 := hg (t (p + m))
    have h2 := cnt_le (t := t) (p := p) hg (m := m)
    by_cases e : j = m
    · subst e; omega
    · exact ih (by omega) (by omega)
theorem bDig_b (b : Int) : 0 ≤ bDig b ∧ bDig b ≤ 1 := by unfold bDig; split <;> omega
theorem bLet_b (b : Int) : 0 ≤ bLet b ∧ bLet b ≤ 1 := by unfold bLet; split <;> omega
theorem bLet_is {b : Int} (h : bLet b = 1) : 97 ≤ b ∧ b ≤ 122 := by unfold bLet at h; split at h <;> omega
theorem bDig_is {b : Int} (h : bDig b = 1) : 48 ≤ b ∧ b ≤ 57 := by unfold bDig at h; split at h <;> omega
theorem bRun_b (b : Int) : bRun b = 0 ∨ bRun b = 1 := by unfold bRun; split <;> omega
theorem zlor8 {w b : Int} (h0 : 0 ≤ w) (h1 : w < 36028797018963968) (h2 : 0 ≤ b) (h3 : b < 256) : zlor (zlshl w 8) b = w * 256 + b := by
  obtain ⟨n, rfl⟩ := Int.eq_ofNat_of_zero_le h0
  obtain ⟨m, rfl⟩ := Int.eq_ofNat_of_zero_le h2
  have k1 : (BitVec.ofInt 64 (n : Int)).toNat = n := by
    rw [BitVec.toNat_ofInt]
    show ((n : Int) % 18446744073709551616).toNat = n
    omega
  have k2 : (BitVec.ofInt 64 (m : Int)).toNat = m := by
    rw [BitVec.toNat_ofInt]
    show ((m : Int) % 18446744073709551616).toNat = m
    omega
  have e0 : (BitVec.ofInt 64 (n : Int) <<< (8 : Nat)).toNat = n * 256 := by
    rw [BitVec.toNat_shiftLeft, k1, Nat.shiftLeft_eq]
    show n * 256 % 18446744073709551616 = n * 256
    omega
  have e1 : zlshl (n : Int) 8 = ((n * 256 : Nat) : Int) := by
    show (BitVec.ofInt 64 (n : Int) <<< (8 : Nat)).toInt = _
    rw [BitVec.toInt_eq_toNat_of_lt (by rw [e0]; omega), e0]
  have k3 : (BitVec.ofInt 64 ((n * 256 : Nat) : Int)).toNat = n * 256 := by
    rw [BitVec.toNat_ofInt]
    show (((n * 256 : Nat) : Int) % 18446744073709551616).toNat = n * 256
    omega
  have e2 : (BitVec.ofInt 64 ((n * 256 : Nat) : Int) ||| BitVec.ofInt 64 (m : Int)).toNat = n * 256 + m := by
    rw [BitVec.toNat_or, k3, k2]
    have := Nat.shiftLeft_add_eq_or_of_lt (a := n) (b := m) (i := 8) (by omega)
    rw [Nat.shiftLeft_eq] at this
    exact this.symm
  rw [e1]
  show (BitVec.ofInt 64 ((n * 256 : Nat) : Int) ||| BitVec.ofInt 64 (m : Int)).toInt = _
  rw [BitVec.toInt_eq_toNat_of_lt (by rw [e2]; omega), e2]
  omega
/-- a word of at most eight letters is the number that they make -/
theorem wrd_e {t : Int → Int} {p : Int} : ∀ {m : Nat}, m ≤ 8 → (∀ j : Nat, j < m → 97 ≤ t (p + j) ∧ t (p + j) ≤ 122) → wrd t p m = nmv t 256 0 p m ∧ 0 ≤ nmv t 256 0 p m ∧ (0 < m → 1 ≤ nmv t 256 0 p m) ∧ 2 * nmv t 256 0 p m < 256 ^ m ∧ (m ≤ 7 → nmv t 256 0 p m < 36028797018963968) ∧ nmv t 256 0 p m < 9223372036854775808 := by
  intro m
  induction m with
  | zero => intro _ _; unfold wrd nmv; exact ⟨rfl, by omega, by omega, by decide, fun _ => by omega, by omega⟩
  | succ m ih =>
    intro hm h
    obtain ⟨a, b, c, d, e, f⟩ := ih (by omega) (fun j hj => h j (by omega))
    have hb := h m (by omega)
    have e' := e (by omega)
    unfold wrd nmv
    rw [a, zlor8 b e' (by omega) (by omega)]
    have hp : (256 : Int) ^ (m + 1) = 256 ^ m * 256 := Int.pow_succ 256 m
    refine ⟨by omega, by omega, by omega, by rw [hp]; omega, fun h7 => ?_, ?_⟩
    · have : m = 0 ∨ m = 1 ∨ m = 2 ∨ m = 3 ∨ m = 4 ∨ m = 5 ∨ m = 6 := by omega
      rcases this with rfl | rfl | rfl | rfl | rfl | rfl | rfl <;> simp only [Int.reducePow] at d <;> omega
    · omega
