section
/-! ===== the tokens of both sides, held against one another ===== -/
theorem nmv_dig {t : Int → Int} {p : Int} : ∀ {m : Nat}, (∀ j : Nat, j < m → 48 ≤ t (p + j) ∧ t (p + j) ≤ 57) → 0 ≤ nmv t 10 48 p m ∧ nmv t 10 48 p m < 10 ^ m := by
  intro m
  induction m with
  | zero => intro _; unfold nmv; exact ⟨(by first | decide | omega), by decide⟩
  | succ m ih =>
    intro h
    have i := ih (fun j hj => h j (by first | decide | omega))
    have k := h m (by first | decide | omega)
    have e : (10 : Int) ^ (m + 1) = 10 ^ m * 10 := Int.pow_succ 10 m
    unfold nmv
    rw [e]
    omega
theorem nmv_4 {t : Int → Int} {p s : Int} (h0 : 0 ≤ s) (h4 : s ≤ 4) (hc : cnt bDig t p s.toNat = s) : 0 ≤ nmv t 10 48 p s.toNat ∧ nmv t 10 48 p s.toNat ≤ 9999 := by
  have i := nmv_dig (t := t) (p := p) (m := s.toNat) (fun j hj => bDig_is (cnt_all (t := t) (p := p) bDig_b (m := s.toNat) (by first | decide | omega) hj))
  have e : (10 : Int) ^ s.toNat ≤ 10000 := by
    have : s = 0 ∨ s = 1 ∨ s = 2 ∨ s = 3 ∨ s = 4 := by omega
    rcases this with rfl | rfl | rfl | rfl | rfl <;> decide
  omega
/-- token j of N is the same on both sides -/
def NZb (w : Int) : Prop := ∀ k : Nat, 0 < w / 256 ^ k → ¬ w / 256 ^ k % 256 = 0
def TKj (B Bm : zB) (N j : Int) : Prop :=
  B 10 0 5 j = Bm 14 0 7 j ∧ B 10 0 6 j = Bm 14 0 8 j ∧ (0 ≤ Bm 14 0 7 j ∧ Bm 14 0 7 j ≤ 5) ∧ (Bm 14 0 7 j = 0 ↔ j = N) ∧
  (Bm 14 0 7 j = 2 → B 10 0 7 j = 8 * Bm 14 0 9 j + Bm 14 0 10 j + 2 ∧ 0 ≤ Bm 14 0 9 j ∧ Bm 14 0 9 j ≤ 62 ∧ -2 ≤ Bm 14 0 10 j ∧ Bm 14 0 10 j ≤ 2) ∧
  (Bm 14 0 7 j = 3 → B 10 0 7 j = Bm 14 0 9 j ∧ B 10 0 7 j ≤ 9999) ∧
  (Bm 14 0 7 j = 4 → B 10 0 7 j = Bm 14 0 11 j ∧ 0 < B 10 0 7 j ∧ NZb (B 10 0 7 j)) ∧
  (Bm 14 0 7 j = 5 → B 10 0 7 j = Bm 14 0 9 j ∧ B 10 0 7 j < 256) ∧
  (0 ≤ B 10 0 7 j ∧ B 10 0 7 j < 9223372036854775808) ∧ (0 ≤ Bm 14 0 8 j ∧ Bm 14 0 8 j ≤ 3000) ∧
  (j < N → Bm 14 0 8 j + (if Bm 14 0 7 j = 2 then 2 else 1) ≤ Bm 14 0 8 (j + 1))
theorem tokK_r {t : Int → Int} {a : Int × Int} : 1 ≤ tokK t a ∧ tokK t a ≤ 5 := by
  unfold tokK
  split
  · split <;> omega
  · have := runK_r t a.1 (a.2 - a.1); omega
theorem tokV_s {t : Int → Int} {p q : Int} (hb : ∀ y, 0 ≤ t y ∧ t y < 256) (h : bRun (t p) = 0) : tokV t (p, q) = t p ∧ (tokK t (p, q) = 1 ∨ tokK t (p, q) = 5) := by
  unfold tokV tokK
  simp only [h, if_true]
  refine ⟨trivial, ?_⟩
  split <;> simp
theorem nmv_nz {t : Int → Int} {p : Int} : ∀ (m : Nat), (∀ j : Nat, j < m → 97 ≤ t (p + j) ∧ t (p + j) ≤ 122) → NZb (nmv t 256 0 p m)
  | 0, _ => fun k z => by
    rw [show nmv t 256 0 p 0 = 0 from rfl, Int.zero_ediv] at z
    exact absurd z (by decide)
  | m + 1, h => fun k z => by
    have i := nmv_nz m (fun j hj => h j (by first | decide | omega))
    have b := h m (by first | decide | omega)
    have e : nmv t 256 0 p (m + 1) = nmv t 256 0 p m * 256 + t (p + m) - 0 := rfl
    rw [e] at z ⊢
    cases k with
    | zero => rw [Int.pow_zero, Int.ediv_one]; omega
    | succ k =>
      have d : ∀ x : Int, x / 256 ^ (k + 1) = x / 256 / 256 ^ k := fun x => by rw [Int.ediv_ediv_of_nonneg (by first | decide | omega), Int.pow_succ, Int.mul_comm]
      have f : (nmv t 256 0 p m * 256 + t (p + m) - 0) / 256 = nmv t 256 0 p m := by omega
      rw [d, f] at z ⊢
      exact i k z
theorem tokV_r {t : Int → Int} {p q : Int} (hp : p < q) (h : ¬ bRun (t p) = 0) : tokK t (p, q) ≠ 5 ∧ (tokK t (p, q) = 2 → p + 2 ≤ q ∧ 0 ≤ tokV t (p, q) ∧ tokV t (p, q) ≤ 600) ∧ (tokK t (p, q) = 3 → 0 ≤ tokV t (p, q) ∧ tokV t (p, q) ≤ 9999) ∧ (tokK t (p, q) = 4 → 0 < tokV t (p, q) ∧ tokV t (p, q) < 9223372036854775808 ∧ NZb (tokV t (p, q))) ∧ (tokK t (p, q) = 1 → tokV t (p, q) = 0) := by
  have hk : tokK t (p, q) = runK t p (q - p) := by simp [tokK, h]
  have hv : tokV t (p, q) = runV t p q := by simp [tokV, h]
  have r := runK_r t p (q - p)
  rw [hk, hv]
  refine ⟨(by first | decide | omega), fun z => ?_, fun z => ?_, fun z => ?_, fun z => ?_⟩
  · have k := pitS_k (runK_2 z)
    rw [show p + (q - p) - 1 = q - 1 by omega] at k
    have hA : -2 ≤ pitA t p (q - p) ∧ pitA t p (q - p) ≤ 2 := by unfold pitA; split <;> omega
    have hV : 0 ≤ pitV t p q ∧ pitV t p q ≤ 62 := by unfold pitV; omega
    have hR : runV t p q = 8 * pitV t p q + pitA t p (q - p) + 2 := by unfold runV; rw [if_pos z]
    omega
  · have k := runK_3 z
    have := nmv_4 (t := t) (p := p) (s := q - p) (by first | decide | omega) k.2 k.1
    have hR : runV t p q = nmv t 10 48 p (q - p).toNat := by unfold runV; rw [z, if_neg (by decide), if_pos rfl]
    omega
  · have k := runK_4 z
    have e := wrd_e (t := t) (p := p) (m := (q - p).toNat) (by first | decide | omega) (fun j hj => bLet_is (cnt_all (t := t) (p := p) bLet_b (m := (q - p).toNat) (by first | decide | omega) hj))
    have hR : runV t p q = nmv t 256 0 p (q - p).toNat := by unfold runV; rw [z, if_neg (by decide), if_neg (by decide), if_pos rfl]
    have := e.2.2.1 (by first | decide | omega)
    rw [hR]
    exact ⟨(by first | decide | omega), (by first | decide | omega), nmv_nz _ (fun j hj => bLet_is (cnt_all (t := t) (p := p) bLet_b (m := (q - p).toNat) (by first | decide | omega) hj))⟩
  · unfold runV; rw [z, if_neg (by decide), if_neg (by decide), if_neg (by decide)]
theorem TK_1 {t : Int → Int} {n p q : Int} {B Bm : zB} {N T : Int} (hb : ∀ y, 0 ≤ t y ∧ t y < 256) (hn : n ≤ 3000) (h0 : 0 ≤ p) (hp : p < q) (hq : q ≤ n) (hs : bRun (t p) = 0 → q = p + 1) (hT : T < N) (c5 : B 10 0 5 T = tokK t (p, q)) (c6 : B 10 0 6 T = p) (c7 : B 10 0 7 T = tokV t (p, q)) (m7 : Bm 14 0 7 T = tokK t (p, q)) (m8 : Bm 14 0 8 T = p) (mq : tokQ t (p, q) (Bm 14 0 9 T) (Bm 14 0 10 T) (Bm 14 0 11 T)) (hx : q ≤ Bm 14 0 8 (T + 1)) : TKj B Bm N T := by
  obtain ⟨q3, q4, q2, q5⟩ := mq
  have r := tokK_r (t := t) (a := (p, q))
  unfold TKj
  rw [m7, c5, c6, m8, c7]
  by_cases h : bRun (t p) = 0
  · have e := tokV_s (q := q) hb h
    have b := hb p
    have hq1 := hs h
    have n2 : ¬ tokK t (p, q) = 2 := by omega
    refine ⟨rfl, rfl, (by first | decide | omega), ⟨fun z => (by first | decide | omega), fun z => (by first | decide | omega)⟩, fun z => (by first | decide | omega), fun z => (by first | decide | omega), fun z => (by first | decide | omega), fun z => ⟨(q5 z).symm, (by first | decide | omega)⟩, (by first | decide | omega), (by first | decide | omega), fun _ => ?_⟩
    rw [if_neg n2]; omega
  · obtain ⟨e5, e2, e3, e4, e1⟩ := tokV_r hp h
    refine ⟨rfl, rfl, (by first | decide | omega), ⟨fun z => (by first | decide | omega), fun z => (by first | decide | omega)⟩, fun z => ⟨(q2 z).1.symm, (q2 z).2⟩, fun z => ⟨(q3 z).symm, (e3 z).2⟩, fun z => ⟨(q4 z).symm, (e4 z).1, (e4 z).2.2⟩, fun z => absurd z e5, ?_, (by first | decide | omega), fun _ => ?_⟩
    · by_cases k2 : tokK t (p, q) = 2
      · have := e2 k2; omega
      · by_cases k3 : tokK t (p, q) = 3
        · have := e3 k3; omega
        · by_cases k4 : tokK t (p, q) = 4
          · have := e4 k4; omega
          · have := e1 (by first | decide | omega); omega
    · split
      · rename_i k2; have := e2 k2; omega
      · omega
theorem TK_L {t : Int → Int} {n : Int} {B Bm : zB} {N : Int} (hb : ∀ y, 0 ≤ t y ∧ t y < 256) (hn : n ≤ 3000) : ∀ {f : Nat} {p T : Int}, 0 ≤ p → p ≤ n → n - p < f → lexC t n (lexL t n f p) T B → lexM t n (lexL t n f p) T Bm → N = T + (lexL t n f p).length → (∀ j, T ≤ j → j ≤ N → TKj B Bm N j) ∧ p ≤ Bm 14 0 8 T := by
  intro f
  induction f with
  | zero => intro p T _ _ h; omega
  | succ f ih =>
    intro p T h0 hp hf hc hm hN
    unfold lexL at hc hm hN
    by_cases h : n ≤ p
    · rw [if_pos h] at hc hm hN
      obtain ⟨c5, c6, c7⟩ := hc
      obtain ⟨m7, m8⟩ := hm
      have hNT : N = T := by rw [hN]; simp
      refine ⟨fun j a b => ?_, (by first | decide | omega)⟩
      have : j = T := by omega
      subst this
      unfold TKj
      rw [m7, c5, c6, m8, c7]
      refine ⟨rfl, rfl, (by first | decide | omega), ⟨fun _ => hNT.symm, fun _ => rfl⟩, fun z => (by first | decide | omega), fun z => (by first | decide | omega), fun z => (by first | decide | omega), fun z => (by first | decide | omega), (by first | decide | omega), (by first | decide | omega), fun z => (by first | decide | omega)⟩
    · rw [if_neg h] at hc hm hN
      by_cases bl : bBlank (t p) = 0
      · rw [if_pos bl] at hc hm hN
        by_cases hr : bRun (t p) = 0
        · rw [if_pos hr] at hc hm hN
          obtain ⟨c5, c6, c7, hc'⟩ := hc
          obtain ⟨m7, m8, mq, hm'⟩ := hm
          rw [List.length_cons] at hN
          obtain ⟨i1, i2⟩ := ih (p := p + 1) (T := T + 1) (by first | decide | omega) (by first | decide | omega) (by first | decide | omega) hc' hm' (by first | decide | omega)
          refine ⟨fun j a b => ?_, by rw [m8]; exact Int.le_refl _⟩
          by_cases hj : j = T
          · subst hj
            exact TK_1 hb hn h0 (by first | decide | omega) (by first | decide | omega) (fun _ => rfl) (by first | decide | omega) c5 c6 c7 m7 m8 mq i2
          · exact i1 j (by first | decide | omega) b
        · have hq := runQ_b (t := t) hn h0 h hr
          rw [if_neg hr] at hc hm hN
          obtain ⟨c5, c6, c7, hc'⟩ := hc
          obtain ⟨m7, m8, mq, hm'⟩ := hm
          rw [List.length_cons] at hN
          obtain ⟨i1, i2⟩ := ih (p := runQ t n p) (T := T + 1) (by first | decide | omega) (by first | decide | omega) (by first | decide | omega) hc' hm' (by first | decide | omega)
          refine ⟨fun j a b => ?_, by rw [m8]; exact Int.le_refl _⟩
          by_cases hj : j = T
          · subst hj
            exact TK_1 hb hn h0 hq.1 (by first | decide | omega) (fun z => absurd z hr) (by first | decide | omega) c5 c6 c7 m7 m8 mq i2
          · exact i1 j (by first | decide | omega) b
      · rw [if_neg bl] at hc hm hN
        obtain ⟨i1, i2⟩ := ih (p := p + 1) (T := T) (by first | decide | omega) (by first | decide | omega) (by first | decide | omega) hc hm hN
        exact ⟨i1, (by first | decide | omega)⟩
def TK (B Bm : zB) (N : Int) : Prop := 0 ≤ N ∧ N ≤ 3000 ∧ ∀ j, 0 ≤ j → j ≤ N → TKj B Bm N j
theorem lexL_len {t : Int → Int} {n : Int} (hn : n ≤ 3000) : ∀ {f : Nat} {p : Int}, 0 ≤ p → p ≤ n → ((lexL t n f p).length : Int) ≤ n - p := by
  intro f
  induction f with
  | zero => intro p _ _; show ((0 : Nat) : Int) ≤ _; omega
  | succ f ih =>
    intro p h0 hp
    unfold lexL
    by_cases h : n ≤ p
    · rw [if_pos h]; show ((0 : Nat) : Int) ≤ _; omega
    · rw [if_neg h]
      by_cases bl : bBlank (t p) = 0
      · rw [if_pos bl]
        by_cases hr : bRun (t p) = 0
        · rw [if_pos hr, List.length_cons]
          have := ih (p := p + 1) (by first | decide | omega) (by first | decide | omega)
          omega
        · have hq := runQ_b (t := t) hn h0 h hr
          rw [if_neg hr, List.length_cons]
          have := ih (p := runQ t n p) (by first | decide | omega) (by first | decide | omega)
          omega
      · rw [if_neg bl]
        have := ih (p := p + 1) (by first | decide | omega) (by first | decide | omega)
        omega
theorem TK_of {t : Int → Int} {n : Int} {B Bm : zB} (hb : ∀ y, 0 ≤ t y ∧ t y < 256) (h0 : 0 ≤ n) (hn : n ≤ 3000) (hc : lexC t n (lexF t n 0) 0 B) (hm : lexM t n (lexF t n 0) 0 Bm) : TK B Bm (lexF t n 0).length := by
  have hl := lexL_len (t := t) hn (f := 3002) (p := 0) (by first | decide | omega) h0
  refine ⟨(by first | decide | omega), ?_, (TK_L hb hn (f := 3002) (p := 0) (T := 0) (by first | decide | omega) h0 (by first | decide | omega) hc hm (by show _ = 0 + ((lexF t n 0).length : Int); omega)).1⟩
  show ((lexL t n 3002 0).length : Int) ≤ 3000
  omega
end
