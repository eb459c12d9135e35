section
/-! ===== the class's readings of a run ===== -/
def joinS (t : Int → Int) (fr base zero : Int) : Nat → Int → Int → Int → Int
  | 0, _, acc, _ => acc
  | f + 1, k, acc, size => if size ≤ k then acc else joinS t fr base zero f (k + 1) (acc * base + t (fr + k) - zero) size
theorem C_joined {K : zK} {F : zF} {B : zB} {fr base zero size : Int} (hK0 : 0 < K.2 0) (h2 : F 0 0 1 ≤ 3000) (hb : ∀ y, 0 ≤ B 0 0 0 y ∧ B 0 0 0 y < 256) (hr1 : r32 base) (hr2 : r32 zero) (hf : 0 ≤ fr) (hs : 0 ≤ size) (he : fr + size ≤ F 0 0 1) : ∀ {n : Nat} {k acc : Int}, 0 ≤ k → k ≤ size → size - k < n → f_Tokens_joined_6 K n k acc 0 fr size base zero F B = some (joinS (B 0 0 0) fr base zero n k acc size, F, B) := by
  intro n
  induction n with
  | zero => intro k acc a b d; omega
  | succ n ih =>
    intro k acc a b d
    have hbk := hb (fr + k)
    unfold f_Tokens_joined_6 joinS
    rw [if_pos (show r32 k from ⟨(by first | decide | omega), (by first | decide | omega)⟩), if_pos (show r32 size from ⟨(by first | decide | omega), (by first | decide | omega)⟩)]
    by_cases h : size ≤ k
    · rw [if_pos h, if_pos h]
    · rw [if_neg h, if_neg h, if_pos hr1, if_pos ⟨by decide, hK0⟩, zbind_some (C_at0 hK0 (by first | decide | omega) (by first | decide | omega) h2), if_pos (show r32 (B 0 0 0 (fr + k)) from ⟨(by first | decide | omega), (by first | decide | omega)⟩), if_pos hr2]
      exact ih (by first | decide | omega) (by first | decide | omega) (by first | decide | omega)
def pitL (t : Int → Int) (fr sign : Int) : Nat → Int → Int → Int
  | 0, _, _ => 0
  | f + 1, k, size => if size - 1 ≤ k then 1 else if t (fr + k) = sign ∧ (t (fr + k) = 35 ∨ t (fr + k) = 98) then pitL t fr sign f (k + 1) size else 0
theorem C_pitL {K : zK} {F : zF} {B : zB} {fr sign size : Int} (hK0 : 0 < K.2 0) (h2 : F 0 0 1 ≤ 3000) (hb : ∀ y, 0 ≤ B 0 0 0 y ∧ B 0 0 0 y < 256) (hr : r32 sign) (hf : 0 ≤ fr) (hs : 0 ≤ size) (he : fr + size ≤ F 0 0 1) : ∀ {n : Nat} {k : Int}, 0 ≤ k → size - k < n → k ≤ 3000 → 0 < n → f_Tokens_isPitch_67 K n k sign 0 fr size F B = some (pitL (B 0 0 0) fr sign n k size, F, B) := by
  intro n
  induction n with
  | zero =>
    intro k a d e p
    omega
  | succ n ih =>
    intro k a d e _
    have hbk := hb (fr + k)
    unfold f_Tokens_isPitch_67 f_Tokens_isPitch_106 f_Tokens_isPitch_108 pitL
    rw [if_pos (show r32 k from ⟨(by first | decide | omega), (by first | decide | omega)⟩), if_pos (show r32 (size - 1) from ⟨(by first | decide | omega), (by first | decide | omega)⟩)]
    by_cases h : size - 1 ≤ k
    · rw [if_pos h, if_pos h]
    · rw [if_neg h, if_neg h, if_pos ⟨by decide, hK0⟩, zbind_some (C_at0 hK0 (by first | decide | omega) (by first | decide | omega) h2), if_pos (show r32 (B 0 0 0 (fr + k)) from ⟨(by first | decide | omega), (by first | decide | omega)⟩), if_pos hr]
      by_cases g : B 0 0 0 (fr + k) = sign
      · rw [if_pos g]
        by_cases q : B 0 0 0 (fr + k) = 35
        · rw [if_pos q, if_pos ⟨g, Or.inl q⟩]
          exact ih (by first | decide | omega) (by first | decide | omega) (by first | decide | omega) (by first | decide | omega)
        · rw [if_neg q]
          by_cases w : B 0 0 0 (fr + k) = 98
          · rw [if_pos w, if_pos ⟨g, Or.inr w⟩]
            exact ih (by first | decide | omega) (by first | decide | omega) (by first | decide | omega) (by first | decide | omega)
          · rw [if_neg w, if_neg (fun z => z.2.elim q w)]
      · rw [if_neg g, if_neg (fun z => g z.1)]
/-- is the run at fr a pitch -/
def pitS (t : Int → Int) (fr size : Int) : Int := if size < 2 ∨ 4 < size ∨ t fr < 97 ∨ 103 < t fr ∨ t (fr + size - 1) < 48 ∨ 56 < t (fr + size - 1) then 0 else pitL t fr (t (fr + 1)) 8 1 size
theorem pitL_f {t : Int → Int} {fr sign : Int} : ∀ {f g : Nat} {k size : Int}, size - k < f → size - k < g → 0 < f → 0 < g → pitL t fr sign f k size = pitL t fr sign g k size := by
  intro f
  induction f with
  | zero => intro g k size a b d e; omega
  | succ f ih =>
    intro g k size a b d e
    match g, e with
    | g + 1, _ =>
      unfold pitL
      by_cases h : size - 1 ≤ k
      · rw [if_pos h, if_pos h]
      · rw [if_neg h, if_neg h]
        by_cases q : t (fr + k) = sign ∧ (t (fr + k) = 35 ∨ t (fr + k) = 98)
        · rw [if_pos q, if_pos q]
          exact ih (by first | decide | omega) (by first | decide | omega) (by first | decide | omega) (by first | decide | omega)
        · rw [if_neg q, if_neg q]
theorem C_isPitch {K : zK} {F : zF} {B : zB} {fr size : Int} (hK : 22 ≤ K.1) (hK0 : 0 < K.2 0) (h2 : F 0 0 1 ≤ 3000) (hb : ∀ y, 0 ≤ B 0 0 0 y ∧ B 0 0 0 y < 256) (hf : 0 ≤ fr) (hs : 1 ≤ size) (he : fr + size ≤ F 0 0 1) : f_Tokens_isPitch K 0 fr size F B = some (pitS (B 0 0 0) fr size, F, B) := by
  have b1 := hb fr
  have b2 := hb (fr + size - 1)
  have b3 := hb (fr + 1)
  unfold f_Tokens_isPitch f_Tokens_isPitch_53 pitS
  rw [if_pos ⟨by decide, hK0⟩, zbind_some (C_at0 hK0 hf (by first | decide | omega) h2), zbind_some (C_at0 hK0 (by first | decide | omega) (by first | decide | omega) h2), if_pos (show r32 size from ⟨(by first | decide | omega), (by first | decide | omega)⟩)]
  by_cases a : size < 2
  · rw [if_pos a, if_pos (by first | decide | omega)]
  · rw [if_neg a]
    by_cases b : 4 < size
    · rw [if_pos b, if_pos (by first | decide | omega)]
    · rw [if_neg b, if_pos (show r32 (B 0 0 0 fr) from ⟨(by first | decide | omega), (by first | decide | omega)⟩)]
      by_cases c : B 0 0 0 fr < 97
      · rw [if_pos c, if_pos (by first | decide | omega)]
      · rw [if_neg c]
        by_cases d : 103 < B 0 0 0 fr
        · rw [if_pos d, if_pos (by first | decide | omega)]
        · rw [if_neg d, if_pos (show r32 (B 0 0 0 (fr + size - 1)) from ⟨(by first | decide | omega), (by first | decide | omega)⟩)]
          by_cases e : B 0 0 0 (fr + size - 1) < 48
          · rw [if_pos e, if_pos (by first | decide | omega)]
          · rw [if_neg e]
            by_cases g : B 0 0 0 (fr + size - 1) ≤ 56
            · rw [if_pos g, zbind_some (C_at0 hK0 (by first | decide | omega) (by first | decide | omega) h2), if_neg (by first | decide | omega), C_pitL hK0 h2 hb ⟨(by first | decide | omega), (by first | decide | omega)⟩ hf (by first | decide | omega) he (by first | decide | omega) (by first | decide | omega) (by first | decide | omega) (by first | decide | omega)]
              rw [pitL_f (f := K.1) (g := 8) (by first | decide | omega) (by first | decide | omega) (by first | decide | omega) (by first | decide | omega)]
            · rw [if_neg g, if_pos (by first | decide | omega)]
end
section
/-! ===== runs: counts, numbers, words ===== -/
theorem runE_f {t : Int → Int} {n : Int} : ∀ {f g : Nat} {p : Int}, n - p < f → n - p < g → runE t n f p = runE t n g p := by
  intro f
  induction f with
  | zero =>
    intro g p a b
    match g with
    | 0 => rfl
    | g + 1 =>
      unfold runE
      rw [if_pos (by first | decide | omega)]
  | succ f ih =>
    intro g p a b
    match g with
    | 0 =>
      unfold runE
      rw [if_pos (by first | decide | omega)]
    | g + 1 =>
      unfold runE
      by_cases h : n ≤ p
      · rw [if_pos h, if_pos h]
      · rw [if_neg h, if_neg h]
        by_cases q : bRun (t p) = 0
        · rw [if_pos q, if_pos q]
        · rw [if_neg q, if_neg q]
          exact ih (by first | decide | omega) (by first | decide | omega)
/-- how many of the m bytes from p on -/
def cnt (g t : Int → Int) (p : Int) : Nat → Int
  | 0 => 0
  | m + 1 => cnt g t p m + g (t (p + m))
/-- the number that the m bytes from p on make -/
def nmv (t : Int → Int) (base zero p : Int) : Nat → Int
  | 0 => 0
  | m + 1 => nmv t base zero p m * base + t (p + m) - zero
def wrd (t : Int → Int) (p : Int) : Nat → Int
  | 0 => 0
  | m + 1 => zlor (zlshl (wrd t p m) 8) (t (p + m))
theorem runS_all {t : Int → Int} {n p0 : Int} : ∀ {f m : Nat}, runS t n f (wrd t p0 m) (cnt bDig t p0 m) (cnt bLet t p0 m) (p0 + m) = (wrd t p0 (runE t n f (p0 + m) - p0).toNat, cnt bDig t p0 (runE t n f (p0 + m) - p0).toNat, cnt bLet t p0 (runE t n f (p0 + m) - p0).toNat, runE t n f (p0 + m)) := by
  intro f
  induction f with
  | zero =>
    intro m
    unfold runS runE
    rw [show (p0 + (m : Int) - p0).toNat = m by omega]
  | succ f ih =>
    intro m
    unfold runS runE
    by_cases a : n ≤ p0 + m
    · rw [if_pos a, if_pos a, show (p0 + (m : Int) - p0).toNat = m by omega]
    · rw [if_neg a, if_neg a]
      by_cases b : bRun (t (p0 + m)) = 0
      · rw [if_pos b, if_pos b, show (p0 + (m : Int) - p0).toNat = m by omega]
      · rw [if_neg b, if_neg b]
        have h := ih (m := m + 1)
        rw [show p0 + ((m + 1 : Nat) : Int) = p0 + (m : Int) + 1 by omega] at h
        exact h
theorem joinS_e {t : Int → Int} {fr base zero size : Int} : ∀ {f m : Nat}, (m : Int) ≤ size → size - m < f → joinS t fr base zero f m (nmv t base zero fr m) size = nmv t base zero fr size.toNat := by
  intro f
  induction f with
  | zero => intro m a b; omega
  | succ f ih =>
    intro m a b
    unfold joinS
    by_cases h : size ≤ m
    · rw [if_pos h, show size.toNat = m by omega]
    · rw [if_neg h]
      have := ih (m := m + 1) (by first | decide | omega) (by first | decide | omega)
      rw [show ((m + 1 : Nat) : Int) = (m : Int) + 1 by omega] at this
      exact this
theorem cnt_le {g t : Int → Int} {p : Int} (hg : ∀ b, 0 ≤ g b ∧ g b ≤ 1) : ∀ {m : Nat}, 0 ≤ cnt g t p m ∧ cnt g t p m ≤ m := by
  intro m
  induction m with
  | zero => exact ⟨by unfold cnt; omega, by unfold cnt; omega⟩
  | succ m ih =>
    unfold cnt
    have := hg (t (p + m))
    omega
theorem cnt_all {g t : Int → Int} {p : Int} (hg : ∀ b, 0 ≤ g b ∧ g b ≤ 1) : ∀ {m : Nat}, cnt g t p m = m → ∀ {j : Nat}, j < m → g (t (p + j)) = 1 := by
  intro m
  induction m with
  | zero => intro _ j hj; omega
  | succ m ih =>
    intro h j hj
    unfold cnt at h
    have h1 := hg (t (p + m))
    have h2 := cnt_le (t := t) (p := p) hg (m := m)
    by_cases e : j = m
    · subst e; omega
    · exact ih (by first | decide | omega) (by first | decide | omega)
theorem bDig_b (b : Int) : 0 ≤ bDig b ∧ bDig b ≤ 1 := by unfold bDig; split <;> omega
theorem bLet_b (b : Int) : 0 ≤ bLet b ∧ bLet b ≤ 1 := by unfold bLet; split <;> omega
theorem bLet_is {b : Int} (h : bLet b = 1) : 97 ≤ b ∧ b ≤ 122 := by unfold bLet at h; split at h <;> omega
theorem bDig_is {b : Int} (h : bDig b = 1) : 48 ≤ b ∧ b ≤ 57 := by unfold bDig at h; split at h <;> omega
theorem bRun_b (b : Int) : bRun b = 0 ∨ bRun b = 1 := by unfold bRun; split <;> omega
theorem zlor8 {w b : Int} (h0 : 0 ≤ w) (h1 : w < 36028797018963968) (h2 : 0 ≤ b) (h3 : b < 256) : zlor (zlshl w 8) b = w * 256 + b := by
  obtain ⟨n, rfl⟩ := Int.eq_ofNat_of_zero_le h0
  obtain ⟨m, rfl⟩ := Int.eq_ofNat_of_zero_le h2
  have k1 : (BitVec.ofInt 64 (n : Int)).toNat = n := by
    rw [BitVec.toNat_ofInt]
    show ((n : Int) % 18446744073709551616).toNat = n
    omega
  have k2 : (BitVec.ofInt 64 (m : Int)).toNat = m := by
    rw [BitVec.toNat_ofInt]
    show ((m : Int) % 18446744073709551616).toNat = m
    omega
  have e0 : (BitVec.ofInt 64 (n : Int) <<< (8 : Nat)).toNat = n * 256 := by
    rw [BitVec.toNat_shiftLeft, k1, Nat.shiftLeft_eq]
    show n * 256 % 18446744073709551616 = n * 256
    omega
  have e1 : zlshl (n : Int) 8 = ((n * 256 : Nat) : Int) := by
    show (BitVec.ofInt 64 (n : Int) <<< (8 : Nat)).toInt = _
    rw [BitVec.toInt_eq_toNat_of_lt (by rw [e0]; omega), e0]
  have k3 : (BitVec.ofInt 64 ((n * 256 : Nat) : Int)).toNat = n * 256 := by
    rw [BitVec.toNat_ofInt]
    show (((n * 256 : Nat) : Int) % 18446744073709551616).toNat = n * 256
    omega
  have e2 : (BitVec.ofInt 64 ((n * 256 : Nat) : Int) ||| BitVec.ofInt 64 (m : Int)).toNat = n * 256 + m := by
    rw [BitVec.toNat_or, k3, k2]
    have := Nat.shiftLeft_add_eq_or_of_lt (a := n) (b := m) (i := 8) (by first | decide | omega)
    rw [Nat.shiftLeft_eq] at this
    exact this.symm
  rw [e1]
  show (BitVec.ofInt 64 ((n * 256 : Nat) : Int) ||| BitVec.ofInt 64 (m : Int)).toInt = _
  rw [BitVec.toInt_eq_toNat_of_lt (by rw [e2]; omega), e2]
  omega
/-- a word of at most eight letters is the number that they make -/
theorem wrd_e {t : Int → Int} {p : Int} : ∀ {m : Nat}, m ≤ 8 → (∀ j : Nat, j < m → 97 ≤ t (p + j) ∧ t (p + j) ≤ 122) → wrd t p m = nmv t 256 0 p m ∧ 0 ≤ nmv t 256 0 p m ∧ (0 < m → 1 ≤ nmv t 256 0 p m) ∧ 2 * nmv t 256 0 p m < 256 ^ m ∧ (m ≤ 7 → nmv t 256 0 p m < 36028797018963968) ∧ nmv t 256 0 p m < 9223372036854775808 := by
  intro m
  induction m with
  | zero => intro _ _; unfold wrd nmv; exact ⟨rfl, (by first | decide | omega), (by first | decide | omega), by decide, fun _ => (by first | decide | omega), (by first | decide | omega)⟩
  | succ m ih =>
    intro hm h
    obtain ⟨a, b, c, d, e, f⟩ := ih (by first | decide | omega) (fun j hj => h j (by first | decide | omega))
    have hb := h m (by first | decide | omega)
    have e' := e (by first | decide | omega)
    unfold wrd nmv
    rw [a, zlor8 b e' (by first | decide | omega) (by first | decide | omega)]
    have hp : (256 : Int) ^ (m + 1) = 256 ^ m * 256 := Int.pow_succ 256 m
    refine ⟨(by first | decide | omega), (by first | decide | omega), (by first | decide | omega), by rw [hp]; omega, fun h7 => ?_, ?_⟩
    · have : m = 0 ∨ m = 1 ∨ m = 2 ∨ m = 3 ∨ m = 4 ∨ m = 5 ∨ m = 6 := by omega
      rcases this with rfl | rfl | rfl | rfl | rfl | rfl | rfl <;> simp only [Int.reducePow] at d <;> omega
    · omega
end
