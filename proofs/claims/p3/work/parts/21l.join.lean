/-! ===== the class's readings of a run ===== -/
def joinS (t : Int → Int) (fr base zero : Int) : Nat → Int → Int → Int → Int
  | 0, _, acc, _ => acc
  | f + 1, k, acc, size => if size ≤ k then acc else joinS t fr base zero f (k + 1) (acc * base + t (fr + k) - zero) size
theorem C_joined {K : zK} {F : zF} {B : zB} {fr base zero size : Int} (hK0 : 0 < K.2 0) (h2 : F 0 0 1 ≤ 3000) (hb : ∀ y, 0 ≤ B 0 0 0 y ∧ B 0 0 0 y < 256) (hr1 : r32 base) (hr2 : r32 zero) (hf : 0 ≤ fr) (hs : 0 ≤ size) (he : fr + size ≤ F 0 0 1) : ∀ {n : Nat} {k acc : Int}, 0 ≤ k → k ≤ size → size - k < n → f_Tokens_joined_6 K n k acc 0 fr size base zero F B = some (joinS (B 0 0 0) fr base zero n k acc size, F, B) := by
  intro n
  induction n with
  | zero => intro k acc a b d; omega
  | succ n ih =>
    intro k acc a b d
    have hbk := hb (fr + k)
    unfold f_Tokens_joined_6 joinS
    rw [if_pos (show r32 k from ⟨by omega, by omega⟩), if_pos (show r32 size from ⟨by omega, by omega⟩)]
    by_cases h : size ≤ k
    · rw [if_pos h, if_pos h]
    · rw [if_neg h, if_neg h, if_pos hr1, if_pos ⟨by decide, hK0⟩, zbind_some (C_at0 hK0 (by omega) (by omega) h2), if_pos (show r32 (B 0 0 0 (fr + k)) from ⟨by omega, by omega⟩), if_pos hr2]
      exact ih (by omega) (by omega) (by omega)
def pitL (t : Int → Int) (fr sign : Int) : Nat → Int → Int → Int
  | 0, _, _ => 0
  | f + 1, k, size => if size - 1 ≤ k then 1 else if t (fr + k) = sign ∧ (t (fr + k) = 35 ∨ t (fr + k) = 98) then pitL t fr sign f (k + 1) size else 0
theorem C_pitL {K : zK} {F : zF} {B : zB} {fr sign size : Int} (hK0 : 0 < K.2 0) (h2 : F 0 0 1 ≤ 3000) (hb : ∀ y, 0 ≤ B 0 0 0 y ∧ B 0 0 0 y < 256) (hr : r32 sign) (hf : 0 ≤ fr) (hs : 0 ≤ size) (he : fr + size ≤ F 0 0 1) : ∀ {n : Nat} {k : Int}, 0 ≤ k → size - k < n → k ≤ 3000 → 0 < n → f_Tokens_isPitch_67 K n k sign 0 fr size F B = some (pitL (B 0 0 0) fr sign n k size, F, B) := by
  intro n
  induction n with
  | zero =>
    intro k a d e p
    omega
  | succ n ih =>
    intro k a d e _
    have hbk := hb (fr + k)
    unfold f_Tokens_isPitch_67 f_Tokens_isPitch_106 f_Tokens_isPitch_108 pitL
    rw [if_pos (show r32 k from ⟨by omega, by omega⟩), if_pos (show r32 (size - 1) from ⟨by omega, by omega⟩)]
    by_cases h : size - 1 ≤ k
    · rw [if_pos h, if_pos h]
    · rw [if_neg h, if_neg h, if_pos ⟨by decide, hK0⟩, zbind_some (C_at0 hK0 (by omega) (by omega) h2), if_pos (show r32 (B 0 0 0 (fr + k)) from ⟨by omega, by omega⟩), if_pos hr]
      by_cases g : B 0 0 0 (fr + k) = sign
      · rw [if_pos g]
        by_cases q : B 0 0 0 (fr + k) = 35
        · rw [if_pos q, if_pos ⟨g, Or.inl q⟩]
          exact ih (by omega) (by omega) (by omega) (by omega)
        · rw [if_neg q]
          by_cases w : B 0 0 0 (fr + k) = 98
          · rw [if_pos w, if_pos ⟨g, Or.inr w⟩]
            exact ih (by omega) (by omega) (by omega) (by omega)
          · rw [if_neg w, if_neg (fun z => z.2.elim q w)]
      · rw [if_neg g, if_neg (fun z => g z.1)]
/-- is the run at fr a pitch -/
def pitS (t : Int → Int) (fr size : Int) : Int := if size < 2 ∨ 4 < size ∨ t fr < 97 ∨ 103 < t fr ∨ t (fr + size - 1) < 48 ∨ 56 < t (fr + size - 1) then 0 else pitL t fr (t (fr + 1)) 8 1 size
theorem pitL_f {t : Int → Int} {fr sign : Int} : ∀ {f g : Nat} {k size : Int}, size - k < f → size - k < g → 0 < f → 0 < g → pitL t fr sign f k size = pitL t fr sign g k size := by
  intro f
  induction f with
  | zero => intro g k size a b d e; omega
  | succ f ih =>
    intro g k size a b d e
    match g, e with
    | g + 1, _ =>
      unfold pitL
      by_cases h : size - 1 ≤ k
      · rw [if_pos h, if_pos h]
      · rw [if_neg h, if_neg h]
        by_cases q : t (fr + k) = sign ∧ (t (fr + k) = 35 ∨ t (fr + k) = 98)
        · rw [if_pos q, if_pos q]
          exact ih (by omega) (by omega) (by omega) (by omega)
        · rw [if_neg q, if_neg q]
theorem C_isPitch {K : zK} {F : zF} {B : zB} {fr size : Int} (hK : 22 ≤ K.1) (hK0 : 0 < K.2 0) (h2 : F 0 0 1 ≤ 3000) (hb : ∀ y, 0 ≤ B 0 0 0 y ∧ B 0 0 0 y < 256) (hf : 0 ≤ fr) (hs : 1 ≤ size) (he : fr + size ≤ F 0 0 1) : f_Tokens_isPitch K 0 fr size F B = some (pitS (B 0 0 0) fr size, F, B) := by
  have b1 := hb fr
  have b2 := hb (fr + size - 1)
  have b3 := hb (fr + 1)
  unfold f_Tokens_isPitch f_Tokens_isPitch_53 pitS
  rw [if_pos ⟨by decide, hK0⟩, zbind_some (C_at0 hK0 hf (by omega) h2), zbind_some (C_at0 hK0 (by omega) (by omega) h2), if_pos (show r32 size from ⟨by omega, by omega⟩)]
  by_cases a : size < 2
  · rw [if_pos a, if_pos (by omega)]
  · rw [if_neg a]
    by_cases b : 4 < size
    · rw [if_pos b, if_pos (by omega)]
    · rw [if_neg b, if_pos (show r32 (B 0 0 0 fr) from ⟨by omega, by omega⟩)]
      by_cases c : B 0 0 0 fr < 97
      · rw [if_pos c, if_pos (by omega)]
      · rw [if_neg c]
        by_cases d : 103 < B 0 0 0 fr
        · rw [if_pos d, if_pos (by omega)]
        · rw [if_neg d, if_pos (show r32 (B 0 0 0 (fr + size - 1)) from ⟨by omega, by omega⟩)]
          by_cases e : B 0 0 0 (fr + size - 1) < 48
          · rw [if_pos e, if_pos (by omega)]
          · rw [if_neg e]
            by_cases g : B 0 0 0 (fr + size - 1) ≤ 56
            · rw [if_pos g, zbind_some (C_at0 hK0 (by omega) (by omega) h2), if_neg (by omega), C_pitL hK0 h2 hb ⟨by omega, by omega⟩ hf (by omega) he (by omega) (by omega) (by omega) (by omega)]
              rw [pitL_f (f := K.1) (g := 8) (by omega) (by omega) (by omega) (by omega)]
            · rw [if_neg g, if_pos (by omega)]
