/-! ===== zPure out of an invariant of both sides that every call keeps ===== -/
theorem zand31 (a b : Int) : r32 (zand a b) := ⟨Int32.le_toInt _, by have := Int32.toInt_le (iI a &&& iI b); exact Int.lt_of_le_of_lt this (by decide)⟩
theorem scz_r (xs : Nat → Int32) (j : Int) : r32 (scz xs j) := ⟨Int32.le_toInt _, by have := Int32.toInt_le (xs j.toNat); exact Int.lt_of_le_of_lt this (by decide)⟩
theorem lloop_of {Kr : Nat} {x : Int} {sc : Int → Int} {n : Int} (hn : n ≤ 4608) (hn0 : 0 ≤ n) {Inv : zK → zF → zB → zF → zB → Prop}
    (hstep : ∀ {i : Int} {K : zK} {F Fm : zF} {B Bm : zB}, 0 ≤ i → i + 9 ≤ n → Inv K F B Fm Bm → ∃ K' F' B' Fm' Bm', lstep Kr x sc n i K F B Fm Bm = some (K', F', B', Fm', Bm') ∧ Inv K' F' B' Fm' Bm') :
    ∀ (f : Nat) {i : Int} {K : zK} {F Fm : zF} {B Bm : zB}, 0 ≤ i → i ≤ 4617 → (n + 1 - i).toNat < f → Inv K F B Fm Bm → ∃ K' F' B' Fm' Bm', lloop Kr x sc n f i K F B Fm Bm = some (K', F', B', Fm', Bm') ∧ Inv K' F' B' Fm' Bm' := by
  intro f
  induction f with
  | zero =>
    intro i K F Fm B Bm h0 h1 hf hI
    omega
  | succ f ih =>
    intro i K F Fm B Bm h0 h1 hf hI
    unfold lloop
    rw [if_pos (show r32 i from ⟨by omega, by omega⟩), if_pos (show r32 (n - 9) from ⟨by omega, by omega⟩)]
    by_cases h : n - 9 < i
    · rw [if_pos h]
      exact ⟨K, F, B, Fm, Bm, rfl, hI⟩
    · rw [if_neg h, if_pos (show 0 ≤ i ∧ i < n from ⟨h0, by omega⟩), if_pos (zand31 _ _)]
      obtain ⟨K1, F1, B1, Fm1, Bm1, e, hI1⟩ := hstep h0 (by omega) hI
      rw [e]
      exact ih (by omega) (by omega) (by omega) hI1
/-- what is to be shown of the functions: an invariant that holds at the start, that every call keeps, and under which what is made has room -/
theorem zPure_of {Kr : Nat} {Inv : zK → zF → zB → zF → zB → Prop} {f fm : Nat} {x : Int} {K Km : zK} {F Fm : zF} {B Bm : zB} (h1 : f_S_init (f, fun _ => 0) zF0 zB0 = some (x, F, B, K)) (h2 : f_M_init (fm, fun _ => 0) zF0 zB0 = some (0, Fm, Bm, Km)) (h3 : ∀ c, Km.2 c = nM c) (h4 : Inv K F B Fm Bm)
    (hstep : ∀ (sc : Int → Int), (∀ j, r32 (sc j)) → ∀ {n i : Int} {K : zK} {F Fm : zF} {B Bm : zB}, n ≤ 4608 → 0 ≤ i → i + 9 ≤ n → Inv K F B Fm Bm → ∃ K' F' B' Fm' Bm', lstep Kr x sc n i K F B Fm Bm = some (K', F', B', Fm', Bm') ∧ Inv K' F' B' Fm' Bm')
    (hroom : ∀ {K' : zK} {F Fm : zF} {B Bm : zB}, Inv K' F B Fm Bm → 282 + cwC K K' ≤ 600000 ∧ 716534 + swC K K' ≤ 7302250) : zPure := by
  intro n xs hn
  obtain ⟨K9, F9, B9, Fm9, Bm9, e, hI⟩ := lloop_of (Kr := Kr) (x := x) (sc := scz xs) (n := n) (by omega) (by omega) (Inv := Inv) (fun h0 h1 hI => hstep (scz xs) (scz_r xs) (by omega) h0 h1 hI) 5000 (i := 0) (by omega) (by omega) (by omega) h4
  exact ⟨f, fm, Kr, 5000, x, K, Km, K9, F, Fm, F9, Fm9, B, Bm, B9, Bm9, h1, h2, h3, e, (hroom hI).1, (hroom hI).2⟩
