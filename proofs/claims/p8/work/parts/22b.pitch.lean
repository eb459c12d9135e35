/-! ===== a call returns, and Q holds of what it leaves ===== -/
def zW (x : zO) (Q : Int → zF → zB → Prop) : Prop := ∃ r F B, x = some (r, F, B) ∧ Q r F B
theorem zW_s {r : Int} {F : zF} {B : zB} {Q : Int → zF → zB → Prop} (h : Q r F B) : zW (some (r, F, B)) Q := ⟨r, F, B, rfl, h⟩
theorem zW_g {p : Prop} {d : Decidable p} {x : zO} {Q : Int → zF → zB → Prop} (h : p) (k : zW x Q) : zW (@ite _ p d x none) Q := by
  rw [if_pos h]; exact k
theorem zW_i {p : Prop} {d : Decidable p} {x y : zO} {Q : Int → zF → zB → Prop} (h1 : p → zW x Q) (h2 : ¬ p → zW y Q) : zW (@ite _ p d x y) Q := by
  by_cases h : p
  · rw [if_pos h]; exact h1 h
  · rw [if_neg h]; exact h2 h
theorem zW_e {x : zO} {k : Int → zF → zB → zO} {r : Int} {F : zF} {B : zB} {Q : Int → zF → zB → Prop} (h : x = some (r, F, B)) (hk : zW (k r F B) Q) : zW (zbind x k) Q := by
  rw [zbind_some h]; exact hk
theorem zW_b {x : zO} {k : Int → zF → zB → zO} {R Q : Int → zF → zB → Prop} (h : zW x R) (hk : ∀ r F B, R r F B → zW (k r F B) Q) : zW (zbind x k) Q := by
  obtain ⟨r, F, B, e, hr⟩ := h
  rw [zbind_some e]; exact hk r F B hr
theorem zW_m {x : zO} {R Q : Int → zF → zB → Prop} (h : zW x R) (hk : ∀ r F B, R r F B → Q r F B) : zW x Q := by
  obtain ⟨r, F, B, e, hr⟩ := h
  exact ⟨r, F, B, e, hk r F B hr⟩
theorem zW_ex {x : zO} {a : Int} {b : zF} {c : zB} (h : zW x (fun r F B => r = a ∧ F = b ∧ B = c)) : x = some (a, b, c) := by
  obtain ⟨r, F, B, e, rfl, rfl, rfl⟩ := h
  exact e
theorem zW_of {x : zO} {r : Int} {F : zF} {B : zB} {Q : Int → zF → zB → Prop} (e : x = some (r, F, B)) (h : Q r F B) : zW x Q := ⟨r, F, B, e, h⟩
def tmB (B : zB) : Int → Int := fun y => B 14 0 2 y % 256
theorem tmB_b (B : zB) (y : Int) : 0 ≤ tmB B y ∧ tmB B y < 256 := by unfold tmB; omega
theorem L_byteA {K : Nat} {p : Int} {F : zF} {B : zB} (h0 : 0 ≤ p) (h1 : p < 3000) : f_M_byteAt K p F B = some (tmB B p, F, B) := L_byteAt h0 h1
/-- a pitch is kept -/
def keepP (B : zB) (T v a : Int) : zB := zup4 (zup4 (zup4 B 14 0 7 T 2) 14 0 9 T v) 14 0 10 T a
theorem pitL_0 {t : Int → Int} {fr sign : Int} {f : Nat} {k size : Int} (h1 : ¬ size - 1 ≤ k) (h2 : ¬ (t (fr + k) = sign ∧ (t (fr + k) = 35 ∨ t (fr + k) = 98))) : pitL t fr sign (f + 1) k size = 0 := by
  unfold pitL; rw [if_neg h1, if_neg h2]
theorem pitL_1 {t : Int → Int} {fr sign : Int} {f : Nat} {k size : Int} (h1 : size - 1 ≤ k) : pitL t fr sign (f + 1) k size = 1 := by
  unfold pitL; rw [if_pos h1]
theorem pitL_n {t : Int → Int} {fr sign : Int} {f : Nat} {k size : Int} (h1 : ¬ size - 1 ≤ k) (h2 : t (fr + k) = sign ∧ (t (fr + k) = 35 ∨ t (fr + k) = 98)) : pitL t fr sign (f + 1) k size = pitL t fr sign f (k + 1) size := by
  conv => lhs; unfold pitL
  rw [if_neg h1, if_pos h2]
theorem L_cp58 {K : Nat} {oct letter p q : Int} {F : zF} {B : zB} (hT : 0 ≤ F 14 0 12 ∧ F 14 0 12 < 3001) (hp : 0 ≤ p) (hq : q ≤ 3000) (hl : 97 ≤ letter ∧ letter ≤ 103) : ∀ {n : Nat} {k a : Int} {f : Nat}, p + 1 ≤ k → k ≤ q - 1 → q - k < n → q - k < f → zW (f_M_cutPitch_58 K n k a oct letter p q F B) (fun _ F' B' => F' = F ∧ B' = if pitL (tmB B) p (tmB B (p + 1)) f (k - p) (q - p) = 1 then keepP B (F 14 0 12) (7 * oct + (letter - 99) % 7) (a + (if tmB B (p + 1) = 35 then q - 1 - k else -(q - 1 - k))) else B) := by
  intro n
  induction n with
  | zero => intro k a f h1 h2 h3 h4; omega
  | succ n ih =>
    intro k a f h1 h2 h3 h4
    have b1 := tmB_b B k
    have b2 := tmB_b B (p + 1)
    obtain ⟨f, rfl⟩ : ∃ g, f = g + 1 := ⟨f - 1, (by first | decide | omega)⟩
    unfold f_M_cutPitch_58
    refine zW_g (by first | decide | omega) ?_
    refine zW_g (by first | decide | omega) ?_
    refine zW_i (fun h1 => ?_) (fun h1 => ?_)
    · skip
      refine zW_g (by first | decide | omega) ?_
      refine zW_e (L_mod (by first | decide | omega) (by decide) (by decide)) ?_
      refine zW_g (by first | decide | omega) ?_
      refine zW_s ?_
      refine ⟨rfl, ?_⟩
      rw [pitL_1 (by first | decide | omega), if_pos rfl, show q - 1 - k = 0 by omega]
      show zup4 _ 14 0 10 (F 14 0 12) a = _
      unfold keepP
      split <;> simp
    · skip
      refine zW_e (L_byteA (by first | decide | omega) (by first | decide | omega)) ?_
      refine zW_g (by first | decide | omega) ?_
      refine zW_i (fun h2 => ?_) (fun h2 => ?_)
      · skip
        unfold f_M_cutPitch_88
        refine zW_e (L_byteA (by first | decide | omega) (by first | decide | omega)) ?_
        refine zW_g (by first | decide | omega) ?_
        refine zW_g (by first | decide | omega) ?_
        refine zW_i (fun h3 => ?_) (fun h3 => ?_)
        · skip
          refine zW_i (fun h4 => ?_) (fun h4 => ?_)
          · skip
            unfold f_M_cutPitch_115
            refine zW_m (ih (k := k + 1) (a := a + 1) (f := f) (by first | decide | omega) (by first | decide | omega) (by first | decide | omega) (by first | decide | omega)) (fun r F' B' hh => ?_)
            obtain ⟨rfl, hB⟩ := hh
            refine ⟨rfl, ?_⟩
            rw [hB, pitL_n (by first | decide | omega) (by rw [show p + (k - p) = k by omega]; omega), show k + 1 - p = k - p + 1 by omega]
            by_cases g : pitL (tmB B) p (tmB B (p + 1)) f (k - p + 1) (q - p) = 1
            · rw [if_pos g, if_pos g]
              congr 1
              split <;> omega
            · rw [if_neg g, if_neg g]
          · skip
            unfold f_M_cutPitch_115
            refine zW_m (ih (k := k + 1) (a := a + (-1)) (f := f) (by first | decide | omega) (by first | decide | omega) (by first | decide | omega) (by first | decide | omega)) (fun r F' B' hh => ?_)
            obtain ⟨rfl, hB⟩ := hh
            refine ⟨rfl, ?_⟩
            rw [hB, pitL_n (by first | decide | omega) (by rw [show p + (k - p) = k by omega]; omega), show k + 1 - p = k - p + 1 by omega]
            by_cases g : pitL (tmB B) p (tmB B (p + 1)) f (k - p + 1) (q - p) = 1
            · rw [if_pos g, if_pos g]
              congr 1
              split <;> omega
            · rw [if_neg g, if_neg g]
        · skip
          unfold f_M_cutPitch_100
          refine zW_s ?_
          refine ⟨rfl, ?_⟩
          rw [pitL_0 (by first | decide | omega) (by rw [show p + (k - p) = k by omega]; omega), if_neg (by decide)]
      · skip
        refine zW_i (fun h5 => ?_) (fun h5 => ?_)
        · skip
          unfold f_M_cutPitch_88
          refine zW_e (L_byteA (by first | decide | omega) (by first | decide | omega)) ?_
          refine zW_g (by first | decide | omega) ?_
          refine zW_g (by first | decide | omega) ?_
          refine zW_i (fun h6 => ?_) (fun h6 => ?_)
          · skip
            refine zW_i (fun h7 => ?_) (fun h7 => ?_)
            · skip
              unfold f_M_cutPitch_115
              refine zW_m (ih (k := k + 1) (a := a + 1) (f := f) (by first | decide | omega) (by first | decide | omega) (by first | decide | omega) (by first | decide | omega)) (fun r F' B' hh => ?_)
              obtain ⟨rfl, hB⟩ := hh
              refine ⟨rfl, ?_⟩
              rw [hB, pitL_n (by first | decide | omega) (by rw [show p + (k - p) = k by omega]; omega), show k + 1 - p = k - p + 1 by omega]
              by_cases g : pitL (tmB B) p (tmB B (p + 1)) f (k - p + 1) (q - p) = 1
              · rw [if_pos g, if_pos g]
                congr 1
                split <;> omega
              · rw [if_neg g, if_neg g]
            · skip
              unfold f_M_cutPitch_115
              refine zW_m (ih (k := k + 1) (a := a + (-1)) (f := f) (by first | decide | omega) (by first | decide | omega) (by first | decide | omega) (by first | decide | omega)) (fun r F' B' hh => ?_)
              obtain ⟨rfl, hB⟩ := hh
              refine ⟨rfl, ?_⟩
              rw [hB, pitL_n (by first | decide | omega) (by rw [show p + (k - p) = k by omega]; omega), show k + 1 - p = k - p + 1 by omega]
              by_cases g : pitL (tmB B) p (tmB B (p + 1)) f (k - p + 1) (q - p) = 1
              · rw [if_pos g, if_pos g]
                congr 1
                split <;> omega
              · rw [if_neg g, if_neg g]
          · skip
            unfold f_M_cutPitch_100
            refine zW_s ?_
            refine ⟨rfl, ?_⟩
            rw [pitL_0 (by first | decide | omega) (by rw [show p + (k - p) = k by omega]; omega), if_neg (by decide)]
        · skip
          unfold f_M_cutPitch_100
          refine zW_s ?_
          refine ⟨rfl, ?_⟩
          rw [pitL_0 (by first | decide | omega) (by rw [show p + (k - p) = k by omega]; omega), if_neg (by decide)]
theorem L_cutPitch {K : Nat} {p q : Int} {F : zF} {B : zB} (hK : 3002 ≤ K) (hT : 0 ≤ F 14 0 12 ∧ F 14 0 12 < 3001) (hp : 0 ≤ p) (hpq : p < q) (hq : q ≤ 3000) : zW (f_M_cutPitch K p q F B) (fun _ F' B' => F' = F ∧ B' = if pitS (tmB B) p (q - p) = 1 then keepP B (F 14 0 12) (7 * (tmB B (q - 1) - 48) + (tmB B p - 99) % 7) (if tmB B (p + 1) = 35 then q - p - 2 else 2 - (q - p)) else B) := by
  have b1 := tmB_b B p
  have b2 := tmB_b B (q - 1)
  have e0 : p + (q - p) - 1 = q - 1 := by omega
  unfold f_M_cutPitch
  refine zW_e (L_byteA (by first | decide | omega) (by first | decide | omega)) ?_
  refine zW_e (L_byteA (by first | decide | omega) (by first | decide | omega)) ?_
  refine zW_g (by first | decide | omega) ?_
  refine zW_i (fun h1 => ?_) (fun h1 => ?_)
  · skip
    unfold f_M_cutPitch_49
    refine zW_s ?_
    refine ⟨rfl, ?_⟩
    rw [show pitS (tmB B) p (q - p) = 0 by unfold pitS; rw [e0, if_pos (by first | decide | omega)], if_neg (by decide)]
  · skip
    refine zW_i (fun h2 => ?_) (fun h2 => ?_)
    · skip
      unfold f_M_cutPitch_49
      refine zW_s ?_
      refine ⟨rfl, ?_⟩
      rw [show pitS (tmB B) p (q - p) = 0 by unfold pitS; rw [e0, if_pos (by first | decide | omega)], if_neg (by decide)]
    · skip
      refine zW_g (by first | decide | omega) ?_
      refine zW_i (fun h3 => ?_) (fun h3 => ?_)
      · skip
        unfold f_M_cutPitch_49
        refine zW_s ?_
        refine ⟨rfl, ?_⟩
        rw [show pitS (tmB B) p (q - p) = 0 by unfold pitS; rw [e0, if_pos (by first | decide | omega)], if_neg (by decide)]
      · skip
        refine zW_i (fun h4 => ?_) (fun h4 => ?_)
        · skip
          unfold f_M_cutPitch_49
          refine zW_s ?_
          refine ⟨rfl, ?_⟩
          rw [show pitS (tmB B) p (q - p) = 0 by unfold pitS; rw [e0, if_pos (by first | decide | omega)], if_neg (by decide)]
        · skip
          refine zW_g (by first | decide | omega) ?_
          refine zW_i (fun h5 => ?_) (fun h5 => ?_)
          · skip
            by_cases hs : q - p < 2
            · have e1 : q - 1 = p := by omega
              rw [e1] at b2 h3 h4
              omega
            · refine zW_m (L_cp58 (f := 8) hT hp hq (by first | decide | omega) (by first | decide | omega) (by first | decide | omega) (by first | decide | omega) (by first | decide | omega)) (fun r F' B' hh => ?_)
              obtain ⟨rfl, hB⟩ := hh
              refine ⟨rfl, ?_⟩
              rw [hB]
              have e2 : pitS (tmB B) p (q - p) = pitL (tmB B) p (tmB B (p + 1)) 8 1 (q - p) := by
                unfold pitS; rw [e0, if_neg (by first | decide | omega)]
              rw [e2, show p + 1 - p = 1 by omega]
              split
              · congr 1
                split <;> omega
              · rfl
          · skip
            unfold f_M_cutPitch_49
            refine zW_s ?_
            refine ⟨rfl, ?_⟩
            rw [show pitS (tmB B) p (q - p) = 0 by unfold pitS; rw [e0, if_pos (by first | decide | omega)], if_neg (by decide)]
