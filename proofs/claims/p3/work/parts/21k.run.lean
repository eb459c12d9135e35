/-! ===== a run of bytes on the reference's side: its end, its letters and digits, its bytes in one number ===== -/
def runS (t : Int → Int) (n : Int) : Nat → Int → Int → Int → Int → Int × Int × Int × Int
  | 0, w, d, l, p => (w, d, l, p)
  | f + 1, w, d, l, p => if n ≤ p then (w, d, l, p) else if bRun (t p) = 0 then (w, d, l, p) else runS t n f (zlor (zlshl w 8) (t p)) (d + bDig (t p)) (l + bLet (t p)) (p + 1)
theorem bDig_1 {b : Int} (h : ¬ bDig b = 0) : bDig b = 1 := by unfold bDig at *; split <;> simp_all
theorem bLet_1 {b : Int} (h : ¬ bLet b = 0) : bLet b = 1 := by unfold bLet at *; split <;> simp_all
theorem L_run {K : Nat} {F : zF} {B : zB} {p0 : Int} (h0 : 0 ≤ F 14 0 3) (h1 : F 14 0 3 ≤ 3000) : ∀ {n : Nat} {w d l p : Int}, 0 ≤ p → p ≤ F 14 0 3 → F 14 0 3 - p < n → f_M_cutRun_10 K n w d l p p0 F B = f_M_cutRun_77 K (runS (fun y => B 14 0 2 y % 256) (F 14 0 3) n w d l p).1 (runS (fun y => B 14 0 2 y % 256) (F 14 0 3) n w d l p).2.1 (runS (fun y => B 14 0 2 y % 256) (F 14 0 3) n w d l p).2.2.1 (runS (fun y => B 14 0 2 y % 256) (F 14 0 3) n w d l p).2.2.2 p0 F B := by
  intro n
  induction n with
  | zero => intro w d l p a b e; omega
  | succ n ih =>
    intro w d l p a b e
    have hb : r32 (B 14 0 2 p % 256) := ⟨by omega, by omega⟩
    unfold f_M_cutRun_10
    rw [if_pos (show r32 p from ⟨by omega, by omega⟩), if_pos (show r32 (F 14 0 3) from ⟨by omega, by omega⟩)]
    by_cases h : F 14 0 3 ≤ p
    · have es : runS (fun y => B 14 0 2 y % 256) (F 14 0 3) (n + 1) w d l p = (w, d, l, p) := by
        unfold runS
        rw [if_pos h]
      rw [if_pos h, es]
    · rw [if_neg h, zbind_some (L_byteAt a (by omega)), zbind_some (L_Run hb), if_pos (bRun_r _)]
      by_cases g : bRun (B 14 0 2 p % 256) = 0
      · have es : runS (fun y => B 14 0 2 y % 256) (F 14 0 3) (n + 1) w d l p = (w, d, l, p) := by
          unfold runS
          rw [if_neg h]
          show (if bRun (B 14 0 2 p % 256) = 0 then _ else _) = _
          rw [if_pos g]
        rw [if_pos g, es]
      · have es : runS (fun y => B 14 0 2 y % 256) (F 14 0 3) (n + 1) w d l p = runS (fun y => B 14 0 2 y % 256) (F 14 0 3) n (zlor (zlshl w 8) (B 14 0 2 p % 256)) (d + bDig (B 14 0 2 p % 256)) (l + bLet (B 14 0 2 p % 256)) (p + 1) := by
          conv => lhs; unfold runS
          rw [if_neg h]
          show (if bRun (B 14 0 2 p % 256) = 0 then _ else _) = _
          rw [if_neg g]
        have nx := fun d' l' => ih (w := zlor (zlshl w 8) (B 14 0 2 p % 256)) (d := d') (l := l') (p := p + 1) (by omega) (by omega) (by omega)
        have s57 : ∀ d' l', f_M_cutRun_57 (f_M_cutRun_10 K n) K w d' l' p p0 F B = f_M_cutRun_10 K n (zlor (zlshl w 8) (B 14 0 2 p % 256)) d' l' (p + 1) p0 F B := by
          intro d' l'
          unfold f_M_cutRun_57
          rw [zbind_some (L_byteAt a (by omega)), if_pos hb]
        have s43 : ∀ l', f_M_cutRun_43 (f_M_cutRun_10 K n) K w d l' p p0 F B = f_M_cutRun_10 K n (zlor (zlshl w 8) (B 14 0 2 p % 256)) (d + bDig (B 14 0 2 p % 256)) l' (p + 1) p0 F B := by
          intro l'
          unfold f_M_cutRun_43
          rw [zbind_some (L_byteAt a (by omega)), zbind_some (L_Dig hb), if_pos (bDig_r _)]
          by_cases q : bDig (B 14 0 2 p % 256) = 0
          · rw [if_pos q, s57, q, Int.add_zero]
          · rw [if_neg q, s57, bDig_1 q]
        rw [if_neg g, zbind_some (L_byteAt a (by omega)), zbind_some (L_Let hb), if_pos (bLet_r _), es]
        by_cases q : bLet (B 14 0 2 p % 256) = 0
        · rw [if_pos q, s43, nx, q, Int.add_zero]
        · rw [if_neg q, s43, nx, bLet_1 q]
theorem runS_e {t : Int → Int} {n : Int} : ∀ {f : Nat} {w d l p : Int}, (runS t n f w d l p).2.2.2 = runE t n f p := by
  intro f
  induction f with
  | zero => intro w d l p; rfl
  | succ f ih =>
    intro w d l p
    unfold runS runE
    by_cases a : n ≤ p
    · rw [if_pos a, if_pos a]
    · rw [if_neg a, if_neg a]
      by_cases b : bRun (t p) = 0
      · rw [if_pos b, if_pos b]
      · rw [if_neg b, if_neg b]
        exact ih
