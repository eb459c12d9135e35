section
/-! ===== kinds of bytes, on both sides ===== -/
def bLet (b : Int) : Int := if 97 ≤ b ∧ b ≤ 122 then 1 else 0
def bDig (b : Int) : Int := if 48 ≤ b ∧ b ≤ 57 then 1 else 0
def bRun (b : Int) : Int := if (97 ≤ b ∧ b ≤ 122) ∨ (48 ≤ b ∧ b ≤ 57) ∨ b = 35 then 1 else 0
def bBlank (b : Int) : Int := if b = 9 ∨ b = 10 ∨ b = 13 ∨ b = 32 then 1 else 0
theorem bLet_r (b : Int) : r32 (bLet b) := by unfold bLet; split <;> exact ⟨by decide, by decide⟩
theorem bDig_r (b : Int) : r32 (bDig b) := by unfold bDig; split <;> exact ⟨by decide, by decide⟩
theorem bRun_r (b : Int) : r32 (bRun b) := by unfold bRun; split <;> exact ⟨by decide, by decide⟩
theorem bBlank_r (b : Int) : r32 (bBlank b) := by unfold bBlank; split <;> exact ⟨by decide, by decide⟩
theorem bLet_0 (b : Int) : bLet b = 0 ↔ ¬ (97 ≤ b ∧ b ≤ 122) := by unfold bLet; split <;> simp_all
theorem bDig_0 (b : Int) : bDig b = 0 ↔ ¬ (48 ≤ b ∧ b ≤ 57) := by unfold bDig; split <;> simp_all
theorem bRun_0 (b : Int) : bRun b = 0 ↔ ¬ ((97 ≤ b ∧ b ≤ 122) ∨ (48 ≤ b ∧ b ≤ 57) ∨ b = 35) := by unfold bRun; split <;> simp_all
theorem bBlank_0 (b : Int) : bBlank b = 0 ↔ ¬ (b = 9 ∨ b = 10 ∨ b = 13 ∨ b = 32) := by unfold bBlank; split <;> simp_all
theorem L_Let {K : Nat} {b : Int} {F : zF} {B : zB} (h : r32 b) : f_M_isLetter K b F B = some (bLet b, F, B) := by
  unfold f_M_isLetter f_M_isLetter_16 f_M_isLetter_17 bLet
  rw [if_pos h]
  by_cases a : b < 97
  · rw [if_pos a, if_pos (by decide), if_neg (by first | decide | omega)]
  · rw [if_neg a]
    by_cases d : 122 < b
    · rw [if_pos d, if_pos (by decide), if_neg (by first | decide | omega)]
    · rw [if_neg d, if_pos (by decide), if_pos (by first | decide | omega)]
theorem L_Dig {K : Nat} {b : Int} {F : zF} {B : zB} (h : r32 b) : f_M_isDigit K b F B = some (bDig b, F, B) := by
  unfold f_M_isDigit f_M_isDigit_16 f_M_isDigit_17 bDig
  rw [if_pos h]
  by_cases a : b < 48
  · rw [if_pos a, if_pos (by decide), if_neg (by first | decide | omega)]
  · rw [if_neg a]
    by_cases d : 57 < b
    · rw [if_pos d, if_pos (by decide), if_neg (by first | decide | omega)]
    · rw [if_neg d, if_pos (by decide), if_pos (by first | decide | omega)]
theorem L_Run {K : Nat} {b : Int} {F : zF} {B : zB} (h : r32 b) : f_M_isRun K b F B = some (bRun b, F, B) := by
  unfold f_M_isRun f_M_isRun_20 f_M_isRun_25
  rw [zbind_some (L_Let h), if_pos (bLet_r b)]
  by_cases a : bLet b = 0
  · rw [if_pos a, zbind_some (L_Dig h), if_pos (bDig_r b)]
    rw [bLet_0] at a
    by_cases d : bDig b = 0
    · rw [if_pos d, if_pos h]
      rw [bDig_0] at d
      unfold bRun
      by_cases e : b = 35
      · rw [if_pos e, if_pos (by decide), if_pos (by first | decide | omega)]
      · rw [if_neg e, if_pos (by decide), if_neg (by first | decide | omega)]
    · rw [if_neg d, if_pos (by decide)]
      rw [bDig_0] at d
      unfold bRun
      rw [if_pos (by first | decide | omega)]
  · rw [if_neg a, if_pos (by decide)]
    rw [bLet_0] at a
    unfold bRun
    rw [if_pos (by first | decide | omega)]
theorem C_Let {K : zK} {b : Int} {F : zF} {B : zB} (h : r32 b) : f_Tokens_isLetter K b F B = some (bLet b, F, B) := by
  unfold f_Tokens_isLetter f_Tokens_isLetter_16 f_Tokens_isLetter_17 bLet
  rw [if_pos h]
  by_cases a : b < 97
  · rw [if_pos a, if_pos (by decide), if_neg (by first | decide | omega)]
  · rw [if_neg a]
    by_cases d : 122 < b
    · rw [if_pos d, if_pos (by decide), if_neg (by first | decide | omega)]
    · rw [if_neg d, if_pos (by decide), if_pos (by first | decide | omega)]
theorem C_Dig {K : zK} {b : Int} {F : zF} {B : zB} (h : r32 b) : f_Tokens_isDigit K b F B = some (bDig b, F, B) := by
  unfold f_Tokens_isDigit f_Tokens_isDigit_16 f_Tokens_isDigit_17 bDig
  rw [if_pos h]
  by_cases a : b < 48
  · rw [if_pos a, if_pos (by decide), if_neg (by first | decide | omega)]
  · rw [if_neg a]
    by_cases d : 57 < b
    · rw [if_pos d, if_pos (by decide), if_neg (by first | decide | omega)]
    · rw [if_neg d, if_pos (by decide), if_pos (by first | decide | omega)]
theorem C_Run {K : zK} {b : Int} {F : zF} {B : zB} (h : r32 b) : f_Tokens_isRunByte K b F B = some (bRun b, F, B) := by
  unfold f_Tokens_isRunByte f_Tokens_isRunByte_20 f_Tokens_isRunByte_25
  rw [zbind_some (C_Let h), if_pos (bLet_r b)]
  by_cases a : bLet b = 0
  · rw [if_pos a, zbind_some (C_Dig h), if_pos (bDig_r b)]
    rw [bLet_0] at a
    by_cases d : bDig b = 0
    · rw [if_pos d, if_pos h]
      rw [bDig_0] at d
      unfold bRun
      by_cases e : b = 35
      · rw [if_pos e, if_pos (by decide), if_pos (by first | decide | omega)]
      · rw [if_neg e, if_pos (by decide), if_neg (by first | decide | omega)]
    · rw [if_neg d, if_pos (by decide)]
      rw [bDig_0] at d
      unfold bRun
      rw [if_pos (by first | decide | omega)]
  · rw [if_neg a, if_pos (by decide)]
    rw [bLet_0] at a
    unfold bRun
    rw [if_pos (by first | decide | omega)]
theorem C_Blank {K : zK} {b : Int} {F : zF} {B : zB} (h : r32 b) : f_Tokens_isBlank K b F B = some (bBlank b, F, B) := by
  unfold f_Tokens_isBlank f_Tokens_isBlank_24 f_Tokens_isBlank_29 bBlank
  rw [if_pos h]
  by_cases a : b = 9
  · rw [if_pos a, if_pos (by decide), if_pos (by first | decide | omega)]
  · rw [if_neg a]
    by_cases d : b = 10
    · rw [if_pos d, if_pos (by decide), if_pos (by first | decide | omega)]
    · rw [if_neg d]
      by_cases e : b = 13
      · rw [if_pos e, if_pos (by decide), if_pos (by first | decide | omega)]
      · rw [if_neg e]
        by_cases g : b = 32
        · rw [if_pos g, if_pos (by decide), if_pos (by first | decide | omega)]
        · rw [if_neg g, if_pos (by decide), if_neg (by first | decide | omega)]
theorem L_byteAt {K : Nat} {p : Int} {F : zF} {B : zB} (h0 : 0 ≤ p) (h1 : p < 3000) : f_M_byteAt K p F B = some (B 14 0 2 p % 256, F, B) := by
  unfold f_M_byteAt
  rw [if_pos ⟨h0, h1⟩, zand255]
theorem C_at0 {K : zK} {l : Int} {F : zF} {B : zB} (hK0 : 0 < K.2 0) (h0 : 0 ≤ l) (h1 : l < F 0 0 1) (h2 : F 0 0 1 ≤ 3000) : f_ByteRow_at K 0 l F B = some (B 0 0 0 l, F, B) := by
  have e : (lnC 0 0 0 : Int) = 3000 := rfl
  unfold f_ByteRow_at f_ByteRow_at_22
  rw [if_pos (show r32 l from ⟨(by first | decide | omega), (by first | decide | omega)⟩), if_neg (by first | decide | omega), if_pos ⟨by decide, hK0⟩, if_pos (show r32 (F 0 0 1) from ⟨(by first | decide | omega), (by first | decide | omega)⟩), if_pos h1, e, if_pos ⟨h0, (by first | decide | omega)⟩]
/-- where the run that begins at p ends -/
def runE (t : Int → Int) (n : Int) : Nat → Int → Int
  | 0, p => p
  | f + 1, p => if n ≤ p then p else if bRun (t p) = 0 then p else runE t n f (p + 1)
theorem runE_le {t : Int → Int} {n : Int} : ∀ {f : Nat} {p : Int}, p ≤ n → p ≤ runE t n f p ∧ runE t n f p ≤ n := by
  intro f
  induction f with
  | zero => intro p h; exact ⟨Int.le_refl _, h⟩
  | succ f ih =>
    intro p h
    unfold runE
    by_cases a : n ≤ p
    · rw [if_pos a]; omega
    · rw [if_neg a]
      by_cases b : bRun (t p) = 0
      · rw [if_pos b]; omega
      · rw [if_neg b]
        have := ih (p := p + 1) (by first | decide | omega)
        omega
theorem C_runEnd {K : zK} {F : zF} {B : zB} (hK0 : 0 < K.2 0) (h2 : F 0 0 1 ≤ 3000) (hb : ∀ y, 0 ≤ B 0 0 0 y ∧ B 0 0 0 y < 256) : ∀ {n : Nat} {p : Int}, 0 ≤ p → p ≤ F 0 0 1 → F 0 0 1 - p < n → f_Tokens_runEnd_2 K n p 0 F B = some (runE (B 0 0 0) (F 0 0 1) n p, F, B) := by
  intro n
  induction n with
  | zero => intro p a b d; omega
  | succ n ih =>
    intro p a b d
    have hbp := hb p
    unfold f_Tokens_runEnd_2 f_Tokens_runEnd_27 runE
    rw [if_pos ⟨by decide, hK0⟩, if_pos (show r32 p from ⟨(by first | decide | omega), (by first | decide | omega)⟩), if_pos (show r32 (F 0 0 1) from ⟨(by first | decide | omega), (by first | decide | omega)⟩)]
    by_cases h : F 0 0 1 ≤ p
    · rw [if_pos h, if_pos h]
    · rw [if_neg h, if_neg h, zbind_some (C_at0 hK0 a (by first | decide | omega) h2), zbind_some (C_Run ⟨(by first | decide | omega), (by first | decide | omega)⟩), if_pos (bRun_r _)]
      by_cases e : bRun (B 0 0 0 p) = 0
      · rw [if_pos e, if_pos e]
      · rw [if_neg e, if_neg e]
        exact ih (by first | decide | omega) (by first | decide | omega) (by first | decide | omega)
end
section
/-! ===== a run of bytes on the reference's side: its end, its letters and digits, its bytes in one number ===== -/
def runS (t : Int → Int) (n : Int) : Nat → Int → Int → Int → Int → Int × Int × Int × Int
  | 0, w, d, l, p => (w, d, l, p)
  | f + 1, w, d, l, p => if n ≤ p then (w, d, l, p) else if bRun (t p) = 0 then (w, d, l, p) else runS t n f (zlor (zlshl w 8) (t p)) (d + bDig (t p)) (l + bLet (t p)) (p + 1)
theorem bDig_1 {b : Int} (h : ¬ bDig b = 0) : bDig b = 1 := by unfold bDig at *; split <;> simp_all
theorem bLet_1 {b : Int} (h : ¬ bLet b = 0) : bLet b = 1 := by unfold bLet at *; split <;> simp_all
theorem L_run {K : Nat} {F : zF} {B : zB} {p0 : Int} (h0 : 0 ≤ F 14 0 3) (h1 : F 14 0 3 ≤ 3000) : ∀ {n : Nat} {w d l p : Int}, 0 ≤ p → p ≤ F 14 0 3 → F 14 0 3 - p < n → f_M_cutRun_10 K n w d l p p0 F B = f_M_cutRun_77 K (runS (fun y => B 14 0 2 y % 256) (F 14 0 3) n w d l p).1 (runS (fun y => B 14 0 2 y % 256) (F 14 0 3) n w d l p).2.1 (runS (fun y => B 14 0 2 y % 256) (F 14 0 3) n w d l p).2.2.1 (runS (fun y => B 14 0 2 y % 256) (F 14 0 3) n w d l p).2.2.2 p0 F B := by
  intro n
  induction n with
  | zero => intro w d l p a b e; omega
  | succ n ih =>
    intro w d l p a b e
    have hb : r32 (B 14 0 2 p % 256) := ⟨(by first | decide | omega), (by first | decide | omega)⟩
    unfold f_M_cutRun_10
    rw [if_pos (show r32 p from ⟨(by first | decide | omega), (by first | decide | omega)⟩), if_pos (show r32 (F 14 0 3) from ⟨(by first | decide | omega), (by first | decide | omega)⟩)]
    by_cases h : F 14 0 3 ≤ p
    · have es : runS (fun y => B 14 0 2 y % 256) (F 14 0 3) (n + 1) w d l p = (w, d, l, p) := by
        unfold runS
        rw [if_pos h]
      rw [if_pos h, es]
    · rw [if_neg h, zbind_some (L_byteAt a (by first | decide | omega)), zbind_some (L_Run hb), if_pos (bRun_r _)]
      by_cases g : bRun (B 14 0 2 p % 256) = 0
      · have es : runS (fun y => B 14 0 2 y % 256) (F 14 0 3) (n + 1) w d l p = (w, d, l, p) := by
          unfold runS
          rw [if_neg h]
          show (if bRun (B 14 0 2 p % 256) = 0 then _ else _) = _
          rw [if_pos g]
        rw [if_pos g, es]
      · have es : runS (fun y => B 14 0 2 y % 256) (F 14 0 3) (n + 1) w d l p = runS (fun y => B 14 0 2 y % 256) (F 14 0 3) n (zlor (zlshl w 8) (B 14 0 2 p % 256)) (d + bDig (B 14 0 2 p % 256)) (l + bLet (B 14 0 2 p % 256)) (p + 1) := by
          conv => lhs; unfold runS
          rw [if_neg h]
          show (if bRun (B 14 0 2 p % 256) = 0 then _ else _) = _
          rw [if_neg g]
        have nx := fun d' l' => ih (w := zlor (zlshl w 8) (B 14 0 2 p % 256)) (d := d') (l := l') (p := p + 1) (by first | decide | omega) (by first | decide | omega) (by first | decide | omega)
        have s57 : ∀ d' l', f_M_cutRun_57 (f_M_cutRun_10 K n) K w d' l' p p0 F B = f_M_cutRun_10 K n (zlor (zlshl w 8) (B 14 0 2 p % 256)) d' l' (p + 1) p0 F B := by
          intro d' l'
          unfold f_M_cutRun_57
          rw [zbind_some (L_byteAt a (by first | decide | omega)), if_pos hb]
        have s43 : ∀ l', f_M_cutRun_43 (f_M_cutRun_10 K n) K w d l' p p0 F B = f_M_cutRun_10 K n (zlor (zlshl w 8) (B 14 0 2 p % 256)) (d + bDig (B 14 0 2 p % 256)) l' (p + 1) p0 F B := by
          intro l'
          unfold f_M_cutRun_43
          rw [zbind_some (L_byteAt a (by first | decide | omega)), zbind_some (L_Dig hb), if_pos (bDig_r _)]
          by_cases q : bDig (B 14 0 2 p % 256) = 0
          · rw [if_pos q, s57, q, Int.add_zero]
          · rw [if_neg q, s57, bDig_1 q]
        rw [if_neg g, zbind_some (L_byteAt a (by first | decide | omega)), zbind_some (L_Let hb), if_pos (bLet_r _), es]
        by_cases q : bLet (B 14 0 2 p % 256) = 0
        · rw [if_pos q, s43, nx, q, Int.add_zero]
        · rw [if_neg q, s43, nx, bLet_1 q]
theorem runS_e {t : Int → Int} {n : Int} : ∀ {f : Nat} {w d l p : Int}, (runS t n f w d l p).2.2.2 = runE t n f p := by
  intro f
  induction f with
  | zero => intro w d l p; rfl
  | succ f ih =>
    intro w d l p
    unfold runS runE
    by_cases a : n ≤ p
    · rw [if_pos a, if_pos a]
    · rw [if_neg a, if_neg a]
      by_cases b : bRun (t p) = 0
      · rw [if_pos b, if_pos b]
      · rw [if_neg b, if_neg b]
        exact ih
end
