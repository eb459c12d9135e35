section
section
/-! ===== the tokens of both sides, held against one another ===== -/
theorem nmv_dig {t : Int → Int} {p : Int} : ∀ {m : Nat}, (∀ j : Nat, j < m → 48 ≤ t (p + j) ∧ t (p + j) ≤ 57) → 0 ≤ nmv t 10 48 p m ∧ nmv t 10 48 p m < 10 ^ m := by
  intro m
  induction m with
  | zero => intro _; unfold nmv; exact ⟨(by first | decide | omega), by decide⟩
  | succ m ih =>
    intro h
    have i := ih (fun j hj => h j (by first | decide | omega))
    have k := h m (by first | decide | omega)
    have e : (10 : Int) ^ (m + 1) = 10 ^ m * 10 := Int.pow_succ 10 m
    unfold nmv
    rw [e]
    omega
theorem nmv_4 {t : Int → Int} {p s : Int} (h0 : 0 ≤ s) (h4 : s ≤ 4) (hc : cnt bDig t p s.toNat = s) : 0 ≤ nmv t 10 48 p s.toNat ∧ nmv t 10 48 p s.toNat ≤ 9999 := by
  have i := nmv_dig (t := t) (p := p) (m := s.toNat) (fun j hj => bDig_is (cnt_all (t := t) (p := p) bDig_b (m := s.toNat) (by first | decide | omega) hj))
  have e : (10 : Int) ^ s.toNat ≤ 10000 := by
    have : s = 0 ∨ s = 1 ∨ s = 2 ∨ s = 3 ∨ s = 4 := by omega
    rcases this with rfl | rfl | rfl | rfl | rfl <;> decide
  omega
/-- token j of N is the same on both sides -/
def NZb (w : Int) : Prop := ∀ k : Nat, 0 < w / 256 ^ k → ¬ w / 256 ^ k % 256 = 0
def TKj (B Bm : zB) (N j : Int) : Prop :=
  B 10 0 5 j = Bm 14 0 7 j ∧ B 10 0 6 j = Bm 14 0 8 j ∧ (0 ≤ Bm 14 0 7 j ∧ Bm 14 0 7 j ≤ 5) ∧ (Bm 14 0 7 j = 0 ↔ j = N) ∧
  (Bm 14 0 7 j = 2 → B 10 0 7 j = 8 * Bm 14 0 9 j + Bm 14 0 10 j + 2 ∧ 0 ≤ Bm 14 0 9 j ∧ Bm 14 0 9 j ≤ 62 ∧ -2 ≤ Bm 14 0 10 j ∧ Bm 14 0 10 j ≤ 2) ∧
  (Bm 14 0 7 j = 3 → B 10 0 7 j = Bm 14 0 9 j ∧ B 10 0 7 j ≤ 9999) ∧
  (Bm 14 0 7 j = 4 → B 10 0 7 j = Bm 14 0 11 j ∧ 0 < B 10 0 7 j ∧ NZb (B 10 0 7 j)) ∧
  (Bm 14 0 7 j = 5 → B 10 0 7 j = Bm 14 0 9 j ∧ B 10 0 7 j < 256) ∧
  (0 ≤ B 10 0 7 j ∧ B 10 0 7 j < 9223372036854775808) ∧ (0 ≤ Bm 14 0 8 j ∧ Bm 14 0 8 j ≤ 3000) ∧
  (j < N → Bm 14 0 8 j + (if Bm 14 0 7 j = 2 then 2 else 1) ≤ Bm 14 0 8 (j + 1))
theorem tokK_r {t : Int → Int} {a : Int × Int} : 1 ≤ tokK t a ∧ tokK t a ≤ 5 := by
  unfold tokK
  split
  · split <;> omega
  · have := runK_r t a.1 (a.2 - a.1); omega
theorem tokV_s {t : Int → Int} {p q : Int} (hb : ∀ y, 0 ≤ t y ∧ t y < 256) (h : bRun (t p) = 0) : tokV t (p, q) = t p ∧ (tokK t (p, q) = 1 ∨ tokK t (p, q) = 5) := by
  unfold tokV tokK
  simp only [h, if_true]
  refine ⟨trivial, ?_⟩
  split <;> simp
theorem nmv_nz {t : Int → Int} {p : Int} : ∀ (m : Nat), (∀ j : Nat, j < m → 97 ≤ t (p + j) ∧ t (p + j) ≤ 122) → NZb (nmv t 256 0 p m)
  | 0, _ => fun k z => by
    rw [show nmv t 256 0 p 0 = 0 from rfl, Int.zero_ediv] at z
    exact absurd z (by decide)
  | m + 1, h => fun k z => by
    have i := nmv_nz m (fun j hj => h j (by first | decide | omega))
    have b := h m (by first | decide | omega)
    have e : nmv t 256 0 p (m + 1) = nmv t 256 0 p m * 256 + t (p + m) - 0 := rfl
    rw [e] at z ⊢
    cases k with
    | zero => rw [Int.pow_zero, Int.ediv_one]; omega
    | succ k =>
      have d : ∀ x : Int, x / 256 ^ (k + 1) = x / 256 / 256 ^ k := fun x => by rw [Int.ediv_ediv_of_nonneg (by first | decide | omega), Int.pow_succ, Int.mul_comm]
      have f : (nmv t 256 0 p m * 256 + t (p + m) - 0) / 256 = nmv t 256 0 p m := by omega
      rw [d, f] at z ⊢
      exact i k z
theorem tokV_r {t : Int → Int} {p q : Int} (hp : p < q) (h : ¬ bRun (t p) = 0) : tokK t (p, q) ≠ 5 ∧ (tokK t (p, q) = 2 → p + 2 ≤ q ∧ 0 ≤ tokV t (p, q) ∧ tokV t (p, q) ≤ 600) ∧ (tokK t (p, q) = 3 → 0 ≤ tokV t (p, q) ∧ tokV t (p, q) ≤ 9999) ∧ (tokK t (p, q) = 4 → 0 < tokV t (p, q) ∧ tokV t (p, q) < 9223372036854775808 ∧ NZb (tokV t (p, q))) ∧ (tokK t (p, q) = 1 → tokV t (p, q) = 0) := by
  have hk : tokK t (p, q) = runK t p (q - p) := by simp [tokK, h]
  have hv : tokV t (p, q) = runV t p q := by simp [tokV, h]
  have r := runK_r t p (q - p)
  rw [hk, hv]
  refine ⟨(by first | decide | omega), fun z => ?_, fun z => ?_, fun z => ?_, fun z => ?_⟩
  · have k := pitS_k (runK_2 z)
    rw [show p + (q - p) - 1 = q - 1 by omega] at k
    have hA : -2 ≤ pitA t p (q - p) ∧ pitA t p (q - p) ≤ 2 := by unfold pitA; split <;> omega
    have hV : 0 ≤ pitV t p q ∧ pitV t p q ≤ 62 := by unfold pitV; omega
    have hR : runV t p q = 8 * pitV t p q + pitA t p (q - p) + 2 := by unfold runV; rw [if_pos z]
    omega
  · have k := runK_3 z
    have := nmv_4 (t := t) (p := p) (s := q - p) (by first | decide | omega) k.2 k.1
    have hR : runV t p q = nmv t 10 48 p (q - p).toNat := by unfold runV; rw [z, if_neg (by decide), if_pos rfl]
    omega
  · have k := runK_4 z
    have e := wrd_e (t := t) (p := p) (m := (q - p).toNat) (by first | decide | omega) (fun j hj => bLet_is (cnt_all (t := t) (p := p) bLet_b (m := (q - p).toNat) (by first | decide | omega) hj))
    have hR : runV t p q = nmv t 256 0 p (q - p).toNat := by unfold runV; rw [z, if_neg (by decide), if_neg (by decide), if_pos rfl]
    have := e.2.2.1 (by first | decide | omega)
    rw [hR]
    exact ⟨(by first | decide | omega), (by first | decide | omega), nmv_nz _ (fun j hj => bLet_is (cnt_all (t := t) (p := p) bLet_b (m := (q - p).toNat) (by first | decide | omega) hj))⟩
  · unfold runV; rw [z, if_neg (by decide), if_neg (by decide), if_neg (by decide)]
theorem TK_1 {t : Int → Int} {n p q : Int} {B Bm : zB} {N T : Int} (hb : ∀ y, 0 ≤ t y ∧ t y < 256) (hn : n ≤ 3000) (h0 : 0 ≤ p) (hp : p < q) (hq : q ≤ n) (hs : bRun (t p) = 0 → q = p + 1) (hT : T < N) (c5 : B 10 0 5 T = tokK t (p, q)) (c6 : B 10 0 6 T = p) (c7 : B 10 0 7 T = tokV t (p, q)) (m7 : Bm 14 0 7 T = tokK t (p, q)) (m8 : Bm 14 0 8 T = p) (mq : tokQ t (p, q) (Bm 14 0 9 T) (Bm 14 0 10 T) (Bm 14 0 11 T)) (hx : q ≤ Bm 14 0 8 (T + 1)) : TKj B Bm N T := by
  obtain ⟨q3, q4, q2, q5⟩ := mq
  have r := tokK_r (t := t) (a := (p, q))
  unfold TKj
  rw [m7, c5, c6, m8, c7]
  by_cases h : bRun (t p) = 0
  · have e := tokV_s (q := q) hb h
    have b := hb p
    have hq1 := hs h
    have n2 : ¬ tokK t (p, q) = 2 := by omega
    refine ⟨rfl, rfl, (by first | decide | omega), ⟨fun z => (by first | decide | omega), fun z => (by first | decide | omega)⟩, fun z => (by first | decide | omega), fun z => (by first | decide | omega), fun z => (by first | decide | omega), fun z => ⟨(q5 z).symm, (by first | decide | omega)⟩, (by first | decide | omega), (by first | decide | omega), fun _ => ?_⟩
    rw [if_neg n2]; omega
  · obtain ⟨e5, e2, e3, e4, e1⟩ := tokV_r hp h
    refine ⟨rfl, rfl, (by first | decide | omega), ⟨fun z => (by first | decide | omega), fun z => (by first | decide | omega)⟩, fun z => ⟨(q2 z).1.symm, (q2 z).2⟩, fun z => ⟨(q3 z).symm, (e3 z).2⟩, fun z => ⟨(q4 z).symm, (e4 z).1, (e4 z).2.2⟩, fun z => absurd z e5, ?_, (by first | decide | omega), fun _ => ?_⟩
    · by_cases k2 : tokK t (p, q) = 2
      · have := e2 k2; omega
      · by_cases k3 : tokK t (p, q) = 3
        · have := e3 k3; omega
        · by_cases k4 : tokK t (p, q) = 4
          · have := e4 k4; omega
          · have := e1 (by first | decide | omega); omega
    · split
      · rename_i k2; have := e2 k2; omega
      · omega
theorem TK_L {t : Int → Int} {n : Int} {B Bm : zB} {N : Int} (hb : ∀ y, 0 ≤ t y ∧ t y < 256) (hn : n ≤ 3000) : ∀ {f : Nat} {p T : Int}, 0 ≤ p → p ≤ n → n - p < f → lexC t n (lexL t n f p) T B → lexM t n (lexL t n f p) T Bm → N = T + (lexL t n f p).length → (∀ j, T ≤ j → j ≤ N → TKj B Bm N j) ∧ p ≤ Bm 14 0 8 T := by
  intro f
  induction f with
  | zero => intro p T _ _ h; omega
  | succ f ih =>
    intro p T h0 hp hf hc hm hN
    unfold lexL at hc hm hN
    by_cases h : n ≤ p
    · rw [if_pos h] at hc hm hN
      obtain ⟨c5, c6, c7⟩ := hc
      obtain ⟨m7, m8⟩ := hm
      have hNT : N = T := by rw [hN]; simp
      refine ⟨fun j a b => ?_, (by first | decide | omega)⟩
      have : j = T := by omega
      subst this
      unfold TKj
      rw [m7, c5, c6, m8, c7]
      refine ⟨rfl, rfl, (by first | decide | omega), ⟨fun _ => hNT.symm, fun _ => rfl⟩, fun z => (by first | decide | omega), fun z => (by first | decide | omega), fun z => (by first | decide | omega), fun z => (by first | decide | omega), (by first | decide | omega), (by first | decide | omega), fun z => (by first | decide | omega)⟩
    · rw [if_neg h] at hc hm hN
      by_cases bl : bBlank (t p) = 0
      · rw [if_pos bl] at hc hm hN
        by_cases hr : bRun (t p) = 0
        · rw [if_pos hr] at hc hm hN
          obtain ⟨c5, c6, c7, hc'⟩ := hc
          obtain ⟨m7, m8, mq, hm'⟩ := hm
          rw [List.length_cons] at hN
          obtain ⟨i1, i2⟩ := ih (p := p + 1) (T := T + 1) (by first | decide | omega) (by first | decide | omega) (by first | decide | omega) hc' hm' (by first | decide | omega)
          refine ⟨fun j a b => ?_, by rw [m8]; exact Int.le_refl _⟩
          by_cases hj : j = T
          · subst hj
            exact TK_1 hb hn h0 (by first | decide | omega) (by first | decide | omega) (fun _ => rfl) (by first | decide | omega) c5 c6 c7 m7 m8 mq i2
          · exact i1 j (by first | decide | omega) b
        · have hq := runQ_b (t := t) hn h0 h hr
          rw [if_neg hr] at hc hm hN
          obtain ⟨c5, c6, c7, hc'⟩ := hc
          obtain ⟨m7, m8, mq, hm'⟩ := hm
          rw [List.length_cons] at hN
          obtain ⟨i1, i2⟩ := ih (p := runQ t n p) (T := T + 1) (by first | decide | omega) (by first | decide | omega) (by first | decide | omega) hc' hm' (by first | decide | omega)
          refine ⟨fun j a b => ?_, by rw [m8]; exact Int.le_refl _⟩
          by_cases hj : j = T
          · subst hj
            exact TK_1 hb hn h0 hq.1 (by first | decide | omega) (fun z => absurd z hr) (by first | decide | omega) c5 c6 c7 m7 m8 mq i2
          · exact i1 j (by first | decide | omega) b
      · rw [if_neg bl] at hc hm hN
        obtain ⟨i1, i2⟩ := ih (p := p + 1) (T := T) (by first | decide | omega) (by first | decide | omega) (by first | decide | omega) hc hm hN
        exact ⟨i1, (by first | decide | omega)⟩
def TK (B Bm : zB) (N : Int) : Prop := 0 ≤ N ∧ N ≤ 3000 ∧ ∀ j, 0 ≤ j → j ≤ N → TKj B Bm N j
theorem lexL_len {t : Int → Int} {n : Int} (hn : n ≤ 3000) : ∀ {f : Nat} {p : Int}, 0 ≤ p → p ≤ n → ((lexL t n f p).length : Int) ≤ n - p := by
  intro f
  induction f with
  | zero => intro p _ _; show ((0 : Nat) : Int) ≤ _; omega
  | succ f ih =>
    intro p h0 hp
    unfold lexL
    by_cases h : n ≤ p
    · rw [if_pos h]; show ((0 : Nat) : Int) ≤ _; omega
    · rw [if_neg h]
      by_cases bl : bBlank (t p) = 0
      · rw [if_pos bl]
        by_cases hr : bRun (t p) = 0
        · rw [if_pos hr, List.length_cons]
          have := ih (p := p + 1) (by first | decide | omega) (by first | decide | omega)
          omega
        · have hq := runQ_b (t := t) hn h0 h hr
          rw [if_neg hr, List.length_cons]
          have := ih (p := runQ t n p) (by first | decide | omega) (by first | decide | omega)
          omega
      · rw [if_neg bl]
        have := ih (p := p + 1) (by first | decide | omega) (by first | decide | omega)
        omega
theorem TK_of {t : Int → Int} {n : Int} {B Bm : zB} (hb : ∀ y, 0 ≤ t y ∧ t y < 256) (h0 : 0 ≤ n) (hn : n ≤ 3000) (hc : lexC t n (lexF t n 0) 0 B) (hm : lexM t n (lexF t n 0) 0 Bm) : TK B Bm (lexF t n 0).length := by
  have hl := lexL_len (t := t) hn (f := 3002) (p := 0) (by first | decide | omega) h0
  refine ⟨(by first | decide | omega), ?_, (TK_L hb hn (f := 3002) (p := 0) (T := 0) (by first | decide | omega) h0 (by first | decide | omega) hc hm (by show _ = 0 + ((lexF t n 0).length : Int); omega)).1⟩
  show ((lexL t n 3002 0).length : Int) ≤ 3000
  omega
end
end
section
section
/-! ===== the class's smallest steps over tokens, exactly ===== -/
theorem zcmp_0 {a b : Int} : zcmp a b = 0 ↔ a = b := by
  unfold zcmp
  split
  · exact ⟨fun z => (by first | decide | omega), fun z => (by first | decide | omega)⟩
  · split
    · exact ⟨fun _ => by assumption, fun _ => rfl⟩
    · exact ⟨fun z => (by first | decide | omega), fun z => by contradiction⟩
theorem zcmp_lt {a b : Int} : zcmp a b < 0 ↔ a < b := by
  unfold zcmp
  split
  · exact ⟨fun _ => by assumption, fun _ => by decide⟩
  · split
    · exact ⟨fun z => (by first | decide | omega), fun z => (by first | decide | omega)⟩
    · exact ⟨fun z => (by first | decide | omega), fun z => (by first | decide | omega)⟩
theorem zcmp_g {a b : Int} : 0 < zcmp a b ↔ b < a := by
  unfold zcmp
  split
  · exact ⟨fun z => (by first | decide | omega), fun z => (by first | decide | omega)⟩
  · split
    · exact ⟨fun z => (by first | decide | omega), fun z => (by first | decide | omega)⟩
    · exact ⟨fun _ => (by first | decide | omega), fun _ => by decide⟩
/-- what the class's parser stands on -/
def CX (K : zK) (F : zF) (B : zB) : Prop := 0 < K.2 3 ∧ 0 < K.2 10 ∧ F 3 0 11 = 0 ∧ (0 ≤ F 10 0 0 ∧ F 10 0 0 ≤ 5) ∧ (0 ≤ F 10 0 2 ∧ F 10 0 2 < 9223372036854775808) ∧ (0 ≤ F 10 0 8 ∧ F 10 0 8 < 3001) ∧ (∀ j, r32 (B 10 0 5 j)) ∧ 3002 ≤ K.1
def sgn (F : zF) (c : Int) : Int := if F 10 0 0 = 5 ∧ F 10 0 2 = c then 1 else 0
def wdn (F : zF) (c : Int) : Int := if F 10 0 0 = 4 ∧ F 10 0 2 = c then 1 else 0
theorem sgn_0 {F : zF} {c : Int} : sgn F c = 0 ↔ ¬ (F 10 0 0 = 5 ∧ F 10 0 2 = c) := by unfold sgn; split <;> simp_all
theorem wdn_0 {F : zF} {c : Int} : wdn F c = 0 ↔ ¬ (F 10 0 0 = 4 ∧ F 10 0 2 = c) := by unfold wdn; split <;> simp_all
theorem sgn_r (F : zF) (c : Int) : sgn F c = 0 ∨ sgn F c = 1 := by unfold sgn; split <;> simp
theorem wdn_r (F : zF) (c : Int) : wdn F c = 0 ∨ wdn F c = 1 := by unfold wdn; split <;> simp
theorem C_isSign {K : zK} {F : zF} {B : zB} {c : Int} (h : CX K F B) (hc : r32 c) : f_Tokens_isSign K 0 c F B = some (sgn F c, F, B) := by
  obtain ⟨k3, k10, e11, hk, hv, hx, h5, hK⟩ := h
  unfold f_Tokens_isSign f_Tokens_isSign_22 f_Tokens_isSign_23 sgn
  rw [if_pos ⟨(by first | decide | omega), k10⟩, if_pos (by first | decide | omega)]
  by_cases a : F 10 0 0 = 5
  · rw [if_pos a, if_pos hc, if_pos (by first | decide | omega), if_pos (by first | decide | omega)]
    by_cases b : F 10 0 2 = c
    · rw [if_pos (zcmp_0.mpr b), if_pos (by decide), if_pos ⟨a, b⟩]
    · rw [if_neg (fun z => b (zcmp_0.mp z)), if_pos (by decide), if_neg (fun z => b z.2)]
  · rw [if_neg a, if_pos (by decide), if_neg (fun z => a z.1)]
theorem C_isWord {K : zK} {F : zF} {B : zB} {c : Int} (h : CX K F B) (hc : r64 c) : f_Tokens_isWord K 0 c F B = some (wdn F c, F, B) := by
  obtain ⟨k3, k10, e11, hk, hv, hx, h5, hK⟩ := h
  unfold f_Tokens_isWord f_Tokens_isWord_21 f_Tokens_isWord_22 wdn
  rw [if_pos ⟨(by first | decide | omega), k10⟩, if_pos (by first | decide | omega)]
  by_cases a : F 10 0 0 = 4
  · rw [if_pos a, if_pos (by first | decide | omega), if_pos hc]
    by_cases b : F 10 0 2 = c
    · rw [if_pos (zcmp_0.mpr b), if_pos (by decide), if_pos ⟨a, b⟩]
    · rw [if_neg (fun z => b (zcmp_0.mp z)), if_pos (by decide), if_neg (fun z => b z.2)]
  · rw [if_neg a, if_pos (by decide), if_neg (fun z => a z.1)]
def refF (F : zF) (s : Int) : zF := zup3 F 3 0 21 ((if F 10 0 0 = 1 then 1 else s) + 16 * F 10 0 1)
theorem C_refuse {K : zK} {F : zF} {B : zB} {s : Int} (h : CX K F B) : f_Parser_refuse K 0 s F B = some (0, refF F s, B) := by
  obtain ⟨k3, k10, e11, hk, hv, hx, h5, hK⟩ := h
  unfold f_Parser_refuse f_Parser_refuse_17 refF
  rw [e11, if_pos ⟨(by first | decide | omega), k3⟩, if_pos ⟨(by first | decide | omega), k10⟩, if_pos (by first | decide | omega)]
  by_cases a : F 10 0 0 = 1
  · rw [if_pos a, if_pos ⟨(by first | decide | omega), k3⟩, if_pos ⟨(by first | decide | omega), k10⟩, if_pos ⟨(by first | decide | omega), k3⟩, if_pos a]
  · rw [if_neg a, if_pos ⟨(by first | decide | omega), k3⟩, if_pos ⟨(by first | decide | omega), k10⟩, if_pos ⟨(by first | decide | omega), k3⟩, if_neg a]
theorem C_adv {K : zK} {F : zF} {B : zB} (h : CX K F B) : f_Tokens_advance K 0 F B = some (0, advF F B, B) := by
  obtain ⟨k3, k10, e11, hk, hv, hx, h5, hK⟩ := h
  exact C_advance k10 hx.1 hx.2 (h5 _)
theorem CX_u {K : zK} {F : zF} {B : zB} {k : Nat} {v : Int} (h : CX K F B) (hk : k ≠ 11) : CX K (zup3 F 3 0 k v) B := by
  unfold CX at *
  simp only [zup3_v]
  rw [if_neg (fun z => hk z.2.2.symm)]
  simpa using h
theorem C_takeSign {K : zK} {F : zF} {B : zB} {c : Int} (h : CX K F B) (hc : r32 c) : f_Parser_takeSign K 0 c F B = if sgn F c = 0 then some (0, refF F 2, B) else some (1, advF F B, B) := by
  have s := sgn_r F c
  have i := C_isSign h hc
  have r := C_refuse (s := 2) h
  have a := C_adv h
  obtain ⟨k3, k10, e11, hk, hv, hx, h5, hK⟩ := h
  unfold f_Parser_takeSign
  rw [e11, if_pos ⟨(by first | decide | omega), k3⟩, if_pos ⟨(by first | decide | omega), k10⟩, i]
  simp only [zb_s]
  rw [if_pos (by first | decide | omega)]
  by_cases z : sgn F c = 0
  · rw [if_pos z, if_pos z, r]
    rfl
  · rw [if_neg z, if_neg z, e11, if_pos ⟨(by first | decide | omega), k10⟩, a]
    rfl
theorem C_takeClosing {K : zK} {F : zF} {B : zB} {c : Int} (h : CX K F B) (hc : r32 c) : f_Parser_takeClosing K 0 c F B = if sgn F c = 0 then some (0, refF (zup3 F 3 0 18 (F 3 0 18 - 1)) 2, B) else some (1, advF (zup3 F 3 0 18 (F 3 0 18 - 1)) B, B) := by
  have i := C_takeSign (CX_u (k := 18) (v := F 3 0 18 - 1) h (by decide)) hc
  have e : sgn (zup3 F 3 0 18 (F 3 0 18 - 1)) c = sgn F c := by simp [sgn, zup3_v]
  rw [e] at i
  unfold f_Parser_takeClosing
  rw [if_pos ⟨(by first | decide | omega), h.1⟩, i]
  by_cases z : sgn F c = 0
  · rw [if_pos z]; rfl
  · rw [if_neg z]; rfl
theorem C_takeOpening {K : zK} {F : zF} {B : zB} {c : Int} (h : CX K F B) (hc : r32 c) (hd : 0 ≤ F 3 0 18 ∧ F 3 0 18 ≤ 8) : f_Parser_takeOpening K 0 c F B = if sgn F c = 0 then some (0, refF F 2, B) else if F 3 0 18 = 8 then some (0, refF F 3, B) else some (1, advF (zup3 F 3 0 18 (F 3 0 18 + 1)) B, B) := by
  have s := sgn_r F c
  have i := C_isSign h hc
  have r := C_refuse (s := 2) h
  have r3 := C_refuse (s := 3) h
  have a := C_adv (CX_u (k := 18) (v := F 3 0 18 + 1) h (by decide))
  obtain ⟨k3, k10, e11, hk, hv, hx, h5, hK⟩ := h
  unfold f_Parser_takeOpening
  rw [e11, if_pos ⟨(by first | decide | omega), k3⟩, if_pos ⟨(by first | decide | omega), k10⟩, i]
  simp only [zb_s]
  rw [if_pos (by first | decide | omega)]
  by_cases z : sgn F c = 0
  · rw [if_pos z, if_pos z, r]
    rfl
  · rw [if_neg z, if_neg z, if_pos (by first | decide | omega)]
    by_cases y : F 3 0 18 = 8
    · rw [if_neg (by first | decide | omega), if_pos y, r3]; rfl
    · rw [if_pos (by first | decide | omega), if_neg y, e11, if_pos ⟨(by first | decide | omega), k10⟩, a]; rfl
/-- is a number a power of two, as bits count -/
def pw2 (v : Int) : Prop := v = 1 ∨ v = 2 ∨ v = 4 ∨ v = 8 ∨ v = 16 ∨ v = 32
theorem bitC {K : zK} {F : zF} {B : zB} : ∀ v : Fin 33, ∃ r, f_Long_bitCount K (v.val : Int) F B = some (r, F, B) ∧ r32 r ∧ (r = 1 ↔ pw2 (v.val : Int)) := by
  intro v
  unfold f_Long_bitCount
  refine ⟨_, rfl, ?_⟩
  revert v
  unfold pw2 r32
  decide +kernel
end
end
section
section
/-! ===== the reference's smallest steps over tokens, exactly ===== -/
def MX (F : zF) (B : zB) (j : Int) : Prop := F 14 0 16 = j ∧ (0 ≤ j ∧ j ≤ 3000) ∧ (0 ≤ B 14 0 7 j ∧ B 14 0 7 j ≤ 5) ∧ (B 14 0 7 j = 5 ∨ B 14 0 7 j = 3 → 0 ≤ B 14 0 9 j ∧ B 14 0 9 j ≤ 9999) ∧ (B 14 0 7 j = 4 → 0 < B 14 0 11 j ∧ B 14 0 11 j < 9223372036854775808)
def sgm (B : zB) (j c : Int) : Int := if B 14 0 7 j = 5 ∧ B 14 0 9 j = c then 1 else 0
def wdm (B : zB) (j c : Int) : Int := if B 14 0 7 j = 4 ∧ B 14 0 11 j = c then 1 else 0
theorem sgm_0 {B : zB} {j c : Int} : sgm B j c = 0 ↔ ¬ (B 14 0 7 j = 5 ∧ B 14 0 9 j = c) := by unfold sgm; split <;> simp_all
theorem wdm_0 {B : zB} {j c : Int} : wdm B j c = 0 ↔ ¬ (B 14 0 7 j = 4 ∧ B 14 0 11 j = c) := by unfold wdm; split <;> simp_all
theorem sgm_r (B : zB) (j c : Int) : sgm B j c = 0 ∨ sgm B j c = 1 := by unfold sgm; split <;> simp
theorem wdm_r (B : zB) (j c : Int) : wdm B j c = 0 ∨ wdm B j c = 1 := by unfold wdm; split <;> simp
theorem L_good {K : Nat} {F : zF} {B : zB} (h : F 14 0 17 = 0) : f_M_good K F B = some (1, F, B) := by
  unfold f_M_good f_M_good_12
  rw [if_pos (by first | decide | omega), if_pos h, if_pos (by decide)]
def bad (F : zF) : Prop := 1 ≤ F 14 0 17 ∧ F 14 0 17 ≤ 15
theorem L_goodB {K : Nat} {F : zF} {B : zB} (h : bad F) : f_M_good K F B = some (0, F, B) := by
  unfold bad at h
  unfold f_M_good f_M_good_12
  rw [if_pos (by first | decide | omega), if_neg (by first | decide | omega), if_pos (by decide)]
theorem L_isSign {K : Nat} {F : zF} {B : zB} {j c : Int} (h : MX F B j) (hc : r32 c) : f_M_isSign K c F B = some (sgm B j c, F, B) := by
  obtain ⟨rfl, h0, hk, hv, hw⟩ := h
  unfold f_M_isSign f_M_isSign_30 f_M_isSign_31 sgm
  rw [if_pos (by first | decide | omega), if_pos (by first | decide | omega)]
  by_cases a : B 14 0 7 (F 14 0 16) = 5
  · have v := hv (Or.inl a)
    rw [if_pos a, if_pos (by first | decide | omega), if_pos hc]
    by_cases b : B 14 0 9 (F 14 0 16) = c
    · rw [if_pos b, if_pos (by decide), if_pos ⟨a, b⟩]
    · rw [if_neg b, if_pos (by decide), if_neg (fun z => b z.2)]
  · rw [if_neg a, if_pos (by decide), if_neg (fun z => a z.1)]
theorem L_isWord {K : Nat} {F : zF} {B : zB} {j c : Int} (h : MX F B j) (hc : r64 c) : f_M_isWord K c F B = some (wdm B j c, F, B) := by
  obtain ⟨rfl, h0, hk, hv, hw⟩ := h
  unfold f_M_isWord f_M_isWord_31 f_M_isWord_32 wdm
  rw [if_pos (by first | decide | omega), if_pos (by first | decide | omega)]
  by_cases a : B 14 0 7 (F 14 0 16) = 4
  · have v := hw a
    rw [if_pos a, if_pos (by first | decide | omega), if_pos hc]
    by_cases b : B 14 0 11 (F 14 0 16) = c
    · rw [if_pos (zcmp_0.mpr b), if_pos (by decide), if_pos ⟨a, b⟩]
    · rw [if_neg (fun z => b (zcmp_0.mp z)), if_pos (by decide), if_neg (fun z => b z.2)]
  · rw [if_neg a, if_pos (by decide), if_neg (fun z => a z.1)]
def errM (F : zF) (B : zB) (s : Int) : zF := zup3 (zup3 F 14 0 17 s) 14 0 18 (B 14 0 8 (F 14 0 16))
theorem L_fail {K : Nat} {F : zF} {B : zB} {s : Int} (h : F 14 0 17 = 0) (h0 : 0 ≤ F 14 0 16 ∧ F 14 0 16 ≤ 3000) : f_M_fail K s F B = some (0, errM F B s, B) := by
  unfold f_M_fail f_M_failAt errM
  rw [if_pos (by first | decide | omega), if_pos (by first | decide | omega), if_pos (by first | decide | omega)]
  rfl
theorem L_failB {K : Nat} {F : zF} {B : zB} {s : Int} (h : bad F) : f_M_fail K s F B = some (0, F, B) := by
  unfold bad at h
  unfold f_M_fail f_M_failAt
  rw [if_pos (by first | decide | omega), if_neg (by first | decide | omega)]
  rfl
def wr (B : zB) (j : Int) : Int := if B 14 0 7 j = 1 then 1 else 2
theorem L_wrong {K : Nat} {F : zF} {B : zB} {j : Int} (h : F 14 0 17 = 0) (hm : MX F B j) : f_M_wrong K F B = some (0, errM F B (wr B j), B) := by
  obtain ⟨rfl, h0, hk, hv, hw⟩ := hm
  unfold f_M_wrong f_M_wrong_19 wr
  rw [if_pos (by first | decide | omega), if_pos (by first | decide | omega)]
  by_cases a : B 14 0 7 (F 14 0 16) = 1
  · rw [if_pos a, if_pos a, L_fail h h0]; rfl
  · rw [if_neg a, if_neg a, L_fail h h0]; rfl
theorem L_wrongB {K : Nat} {F : zF} {B : zB} {j : Int} (h : bad F) (hm : MX F B j) : f_M_wrong K F B = some (0, F, B) := by
  obtain ⟨rfl, h0, hk, hv, hw⟩ := hm
  unfold f_M_wrong f_M_wrong_19
  rw [if_pos (by first | decide | omega), if_pos (by first | decide | omega), L_failB h, L_failB h]
  by_cases a : B 14 0 7 (F 14 0 16) = 1
  · rw [if_pos a]; rfl
  · rw [if_neg a]; rfl
theorem L_need {K : Nat} {F : zF} {B : zB} {j c : Int} (h : F 14 0 17 = 0) (hm : MX F B j) (hc : r32 c) : f_M_need K c F B = if sgm B j c = 0 then some (0, errM F B (wr B j), B) else some (0, zup3 F 14 0 16 (j + 1), B) := by
  have s := sgm_r B j c
  unfold f_M_need f_M_need_33
  rw [L_good h]
  simp only [zb_s]
  rw [if_pos (by decide), if_neg (by decide), L_isSign hm hc]
  simp only [zb_s]
  rw [if_pos (by first | decide | omega), L_wrong h hm, hm.1]
  rfl
theorem L_needB {K : Nat} {F : zF} {B : zB} {c : Int} (h : bad F) : f_M_need K c F B = some (0, F, B) := by
  unfold f_M_need
  rw [L_goodB h]
  simp only [zb_s]
  rw [if_pos (by decide), if_pos (by decide)]
theorem L_opening {K : Nat} {F : zF} {B : zB} {j c : Int} (h : F 14 0 17 = 0) (hm : MX F B j) (hc : r32 c) (hd : 0 ≤ F 14 0 19 ∧ F 14 0 19 ≤ 8) : f_M_opening K c F B = if sgm B j c = 0 then some (0, errM F B (wr B j), B) else if F 14 0 19 = 8 then some (0, errM F B 3, B) else some (0, zup3 (zup3 F 14 0 19 (F 14 0 19 + 1)) 14 0 16 (j + 1), B) := by
  have s := sgm_r B j c
  unfold f_M_opening f_M_opening_60
  rw [L_good h]
  simp only [zb_s]
  rw [if_pos (by decide), if_neg (by decide), L_isSign hm hc]
  simp only [zb_s]
  have l3 := L_fail (K := K) (F := F) (B := B) (s := 3) h (by have := hm.1; have := hm.2.1; omega)
  rw [if_pos (by first | decide | omega)]
  by_cases a : sgm B j c = 0
  · rw [if_pos a, if_pos a, L_wrong h hm]; rfl
  · rw [if_neg a, if_neg a, if_pos (by first | decide | omega), l3, hm.1]; rfl
theorem L_openingB {K : Nat} {F : zF} {B : zB} {c : Int} (h : bad F) : f_M_opening K c F B = some (0, F, B) := by
  unfold f_M_opening
  rw [L_goodB h]
  simp only [zb_s]
  rw [if_pos (by decide), if_pos (by decide)]
theorem MX_row {F : zF} {B : zB} {j : Int} {k : Nat} {x v : Int} (h : MX F B j) (h7 : k ≠ 7) (h9 : k ≠ 9) (h11 : k ≠ 11) : MX F (zup4 B 14 0 k x v) j := by
  unfold MX at *
  simp only [zup4_v]
  rw [if_neg (fun z => h7 z.2.2.1.symm), if_neg (fun z => h9 z.2.2.1.symm), if_neg (fun z => h11 z.2.2.1.symm)]
  exact h
theorem L_closing {K : Nat} {F : zF} {B : zB} {j c fr : Int} (h : F 14 0 17 = 0) (hm : MX F B j) (hc : r32 c) (hf : 0 ≤ fr ∧ fr ≤ 3000) : f_M_closing K fr c F B = if sgm B j c = 0 then some (0, zup3 (errM F B (wr B j)) 14 0 19 (F 14 0 19 - 1), zup4 B 14 0 30 fr j) else some (0, zup3 (zup3 F 14 0 16 (j + 1)) 14 0 19 (F 14 0 19 - 1), zup4 B 14 0 30 fr j) := by
  have s := sgm_r B j c
  have e1 : sgm (zup4 B 14 0 30 fr j) j c = sgm B j c := by simp [sgm, zup4_v]
  have e2 : wr (zup4 B 14 0 30 fr j) j = wr B j := by simp [wr, zup4_v]
  have e3 : errM F (zup4 B 14 0 30 fr j) (wr B j) = errM F B (wr B j) := by simp [errM, zup4_v]
  have n := L_need (K := K) (c := c) h (MX_row (k := 30) (x := fr) (v := j) hm (by decide) (by decide) (by decide)) hc
  rw [e1, e2, e3] at n
  unfold f_M_closing
  rw [L_good h]
  simp only [zb_s]
  rw [if_pos (by decide), if_neg (by decide), if_pos (by first | decide | omega), hm.1, n]
  by_cases a : sgm B j c = 0
  · rw [if_pos a, if_pos a]
    simp only [zb_s]
    simp [errM, zup3_v]
  · rw [if_neg a, if_neg a]
    simp only [zb_s]
    simp [zup3_v]
theorem L_closingB {K : Nat} {F : zF} {B : zB} {c fr : Int} (h : bad F) : f_M_closing K fr c F B = some (0, F, B) := by
  unfold f_M_closing
  rw [L_goodB h]
  simp only [zb_s]
  rw [if_pos (by decide), if_pos (by decide)]
def nOK (v lo hi pw : Int) : Prop := lo ≤ v ∧ v ≤ hi ∧ (pw = 0 ∨ pw2 v)
theorem pw2_and : ∀ v : Fin 33, 1 ≤ v.val → (zand (v.val : Int) ((v.val : Int) - 1) = 0 ↔ pw2 (v.val : Int)) := by
  unfold pw2
  decide +kernel
theorem zand_r32 (a b : Int) : r32 (zand a b) := toI_r _
theorem L_number {K : Nat} {F : zF} {B : zB} {j lo hi pw : Int} (h : F 14 0 17 = 0) (hm : MX F B j) (hl : r32 lo) (hh : r32 hi) (hp : pw = 0 ∨ pw = 1 ∧ 1 ≤ lo ∧ hi ≤ 32) : (B 14 0 7 j = 3 → nOK (B 14 0 9 j) lo hi pw → f_M_number K lo hi pw F B = some (B 14 0 9 j, zup3 F 14 0 16 (j + 1), B)) ∧ (B 14 0 7 j = 3 → ¬ nOK (B 14 0 9 j) lo hi pw → f_M_number K lo hi pw F B = some (B 14 0 9 j, errM F B 5, B)) ∧ (¬ B 14 0 7 j = 3 → f_M_number K lo hi pw F B = some (0, errM F B (wr B j), B)) := by
  have w := L_wrong (K := K) h hm
  have f5 := L_fail (K := K) (F := F) (B := B) (s := 5) h (by have := hm.1; have := hm.2.1; omega)
  obtain ⟨rfl, h0, hk, hv, hw⟩ := hm
  unfold f_M_number f_M_number_65 f_M_number_73 f_M_number_83
  rw [L_good h]
  simp only [zb_s]
  rw [if_pos (by decide), if_neg (by decide), if_pos (by first | decide | omega), if_pos (by first | decide | omega), f5, w]
  simp only [zb_s]
  refine ⟨fun a n => ?_, fun a n => ?_, fun a => ?_⟩
  · have v := hv (Or.inr a)
    obtain ⟨n1, n2, n3⟩ := n
    rw [if_pos a, if_pos (by first | decide | omega), if_pos hl, if_neg (by first | decide | omega), if_pos hh, if_neg (by first | decide | omega), if_pos (by first | decide | omega)]
    rcases hp with rfl | ⟨rfl, p1, p2⟩
    · rw [if_pos rfl]
    · have b := pw2_and ⟨(B 14 0 9 (F 14 0 16)).toNat, (by first | decide | omega)⟩ (by show 1 ≤ (B 14 0 9 (F 14 0 16)).toNat; omega)
      rw [show (((⟨(B 14 0 9 (F 14 0 16)).toNat, (by first | decide | omega)⟩ : Fin 33).val : Nat) : Int) = B 14 0 9 (F 14 0 16) by show (((B 14 0 9 (F 14 0 16)).toNat : Nat) : Int) = _; omega] at b
      rw [if_neg (by decide), if_pos (zand_r32 _ _), if_pos (b.mpr (n3.resolve_left (by decide)))]
  · have v := hv (Or.inr a)
    rw [if_pos a, if_pos (by first | decide | omega), if_pos hl]
    by_cases n1 : B 14 0 9 (F 14 0 16) < lo
    · rw [if_pos n1]
    · rw [if_neg n1, if_pos hh]
      by_cases n2 : hi < B 14 0 9 (F 14 0 16)
      · rw [if_pos n2]
      · rw [if_neg n2, if_pos (by first | decide | omega)]
        rcases hp with rfl | ⟨rfl, p1, p2⟩
        · exact absurd ⟨(by first | decide | omega), (by first | decide | omega), Or.inl rfl⟩ n
        · have b := pw2_and ⟨(B 14 0 9 (F 14 0 16)).toNat, (by first | decide | omega)⟩ (by show 1 ≤ (B 14 0 9 (F 14 0 16)).toNat; omega)
          rw [show (((⟨(B 14 0 9 (F 14 0 16)).toNat, (by first | decide | omega)⟩ : Fin 33).val : Nat) : Int) = B 14 0 9 (F 14 0 16) by show (((B 14 0 9 (F 14 0 16)).toNat : Nat) : Int) = _; omega] at b
          rw [if_neg (by decide), if_pos (zand_r32 _ _), if_neg (fun z => n ⟨(by first | decide | omega), (by first | decide | omega), Or.inr (b.mp z)⟩)]
  · rw [if_neg a]
theorem L_numberB {K : Nat} {F : zF} {B : zB} {lo hi pw : Int} (h : bad F) : f_M_number K lo hi pw F B = some (0, F, B) := by
  unfold f_M_number
  rw [L_goodB h]
  simp only [zb_s]
  rw [if_pos (by decide), if_pos (by decide)]
def mkm (B : zB) (j : Int) : Int := if B 14 0 7 j = 5 then (if B 14 0 9 j = 126 then 1 else if B 14 0 9 j = 40 then 2 else if B 14 0 9 j = 41 then 4 else if B 14 0 9 j = 39 then 8 else if B 14 0 9 j = 94 then 16 else if B 14 0 9 j = 45 then 32 else if B 14 0 9 j = 37 then 64 else 0) else 0
theorem L_markHere {K : Nat} {F : zF} {B : zB} {j : Int} (hm : MX F B j) : f_M_markHere K F B = some (mkm B j, F, B) := by
  unfold f_M_markHere f_M_markHere_84
  have s126 := L_isSign (K := K) (c := 126) hm (by decide)
  have s40 := L_isSign (K := K) (c := 40) hm (by decide)
  have s41 := L_isSign (K := K) (c := 41) hm (by decide)
  have s39 := L_isSign (K := K) (c := 39) hm (by decide)
  have s94 := L_isSign (K := K) (c := 94) hm (by decide)
  have s45 := L_isSign (K := K) (c := 45) hm (by decide)
  have s37 := L_isSign (K := K) (c := 37) hm (by decide)
  simp only [zb_s, s126, s40, s41, s39, s94, s45, s37]
  unfold mkm sgm
  by_cases a : B 14 0 7 j = 5
  · simp only [a, true_and, if_true]
    by_cases b1 : B 14 0 9 j = 126
    · simp [b1] <;> decide
    · by_cases b2 : B 14 0 9 j = 40
      · simp [b2] <;> decide
      · by_cases b3 : B 14 0 9 j = 41
        · simp [b3] <;> decide
        · by_cases b4 : B 14 0 9 j = 39
          · simp [b4] <;> decide
          · by_cases b5 : B 14 0 9 j = 94
            · simp [b5] <;> decide
            · by_cases b6 : B 14 0 9 j = 45
              · simp [b6] <;> decide
              · by_cases b7 : B 14 0 9 j = 37
                · simp [b7] <;> decide
                · simp [b1, b2, b3, b4, b5, b6, b7] <;> decide
  · simp [a] <;> decide
end
end
section
section
/-! ===== words in tables ===== -/
def fiL : List Int → Int → Int → Int
  | [], _, _ => -1
  | a :: L, w, k => if a = w then k else fiL L w (k + 1)
theorem fiL_r {w : Int} : ∀ {L : List Int} {k : Int}, 0 ≤ k → (fiL L w k = -1 ∧ w ∉ L) ∨ (k ≤ fiL L w k ∧ fiL L w k < k + L.length ∧ w ∈ L) := by
  intro L
  induction L with
  | nil => intro k _; exact Or.inl ⟨rfl, by simp⟩
  | cons a L ih =>
    intro k hk
    unfold fiL
    by_cases h : a = w
    · rw [if_pos h]
      refine Or.inr ⟨Int.le_refl _, by rw [List.length_cons]; omega, by rw [h]; simp⟩
    · rw [if_neg h]
      rcases ih (k := k + 1) (by first | decide | omega) with ⟨x, y⟩ | ⟨x, y, z⟩
      · exact Or.inl ⟨x, by simp only [List.mem_cons, not_or]; exact ⟨fun q => h q.symm, y⟩⟩
      · exact Or.inr ⟨(by first | decide | omega), by rw [List.length_cons]; omega, by simp only [List.mem_cons]; exact Or.inr z⟩
theorem fiL_n {w : Int} {L : List Int} : fiL L w 0 = -1 ↔ w ∉ L := by
  rcases fiL_r (w := w) (L := L) (k := 0) (by first | decide | omega) with ⟨x, y⟩ | ⟨x, y, z⟩
  · exact ⟨fun _ => y, fun _ => x⟩
  · exact ⟨fun q => (by first | decide | omega), fun q => absurd z q⟩
theorem fiL_b {w : Int} {L : List Int} : -1 ≤ fiL L w 0 ∧ fiL L w 0 < L.length + 1 := by
  rcases fiL_r (w := w) (L := L) (k := 0) (by first | decide | omega) with ⟨x, y⟩ | ⟨x, y, z⟩ <;> omega
def wC : List Int := [128034676042853, 1650553715, 1634497647, 499917942642]
def wL : List Int := [7368816, 28784, 112, 28016, 28006, 102, 26214, 6710886]
def wB : List Int := [125780002955636, 7697253, 1836021349, 120299659095922, 1650549611, 1936486263]
def wO : List Int := [7038329, 469785800562, 469920280434, 1953066341, 499917877359, 7103860, 508675318629, 6384756, 114]
def wM : List Int := [7038329, 469785800562, 469920280434, 1953066341, 499917877359, 7103860, 508675318629, 125780002955636, 6384756, 7697253, 1836021349, 120299659095922, 1650549611, 1936486263, 114]
theorem wM_m {w : Int} : w ∉ wM ↔ w ∉ wB ∧ w ∉ wO := by
  unfold wM wB wO
  simp only [List.mem_cons, List.not_mem_nil, or_false, not_or]
  constructor
  · rintro ⟨a, b, c, d, e, f, g, h, i, j, k, l, m, n, o⟩
    exact ⟨⟨h, j, k, l, m, n⟩, a, b, c, d, e, f, g, i, o⟩
  · rintro ⟨⟨h, j, k, l, m, n⟩, a, b, c, d, e, f, g, i, o⟩
    exact ⟨a, b, c, d, e, f, g, h, i, j, k, l, m, n, o⟩
def nmC (w : Int) : Prop := w ∉ wC ∧ w ∉ wL ∧ w ∉ wB ∧ w ∉ wO
theorem C_ix {K : zK} {s : Nat} {w : Int} {F : zF} {B : zB} (h : s < staL.length) (hb : (zta s).2.2.2.1 = true) (hl : ztl s ≤ 100) (hr : ∀ k, r64 (ztv s k)) (hw : r64 w) : ∀ {n : Nat} {k : Nat}, k ≤ (zta s).2.2.2.2.length → (zta s).2.2.2.2.length < n + k → f_Parser_indexOf_2 K n (k : Int) s w F B = some (fiL ((zta s).2.2.2.2.drop k) w k, F, B) := by
  intro n
  induction n with
  | zero => intro k a b; omega
  | succ n ih =>
    intro k a b
    unfold ztl at hl
    unfold f_Parser_indexOf_2
    rw [if_pos h, if_pos (by first | decide | omega), show ztl s = ((zta s).2.2.2.2.length : Int) from rfl, if_pos (by first | decide | omega)]
    by_cases e : k = (zta s).2.2.2.2.length
    · rw [if_pos (by first | decide | omega), e, List.drop_length]; rfl
    · have hk : k < (zta s).2.2.2.2.length := by omega
      rw [if_neg (by first | decide | omega), if_pos hb, if_pos (by first | decide | omega), if_pos (hr _), if_pos hw, List.drop_eq_getElem_cons hk]
      have hv : ztv s (k : Int) = (zta s).2.2.2.2[k] := by
        unfold ztv
        rw [show ((k : Int)).toNat = k by omega, List.getD_eq_getElem?_getD, List.getElem?_eq_getElem hk]; rfl
      unfold fiL
      by_cases q : ztv s (k : Int) = w
      · rw [if_pos (zcmp_0.mpr q), if_pos (hv ▸ q)]
      · rw [if_neg (fun z => q (zcmp_0.mp z)), if_neg (fun z => q (hv.trans z))]
        exact ih (k := k + 1) (by first | decide | omega) (by first | decide | omega)
theorem C_index {K : zK} {s : Nat} {w : Int} {F : zF} {B : zB} {L : List Int} (hK : 3002 ≤ K.1) (h : s < staL.length) (hb : (zta s).2.2.2.1 = true) (hL : (zta s).2.2.2.2 = L) (hl : L.length ≤ 100) (hr : ∀ x ∈ L, r64 x) (hw : r64 w) : f_Parser_indexOf K s w F B = some (fiL L w 0, F, B) := by
  have hr' : ∀ k, r64 (ztv s k) := by
    intro k
    unfold ztv
    rw [hL, List.getD_eq_getElem?_getD]
    cases e : L[k.toNat]? with
    | none => exact ⟨by decide, by decide⟩
    | some x => exact hr x (List.mem_of_getElem? e)
  have i := C_ix (K := K) (F := F) (B := B) h hb (by unfold ztl; rw [hL]; omega) hr' hw (n := K.1) (k := 0) (by first | decide | omega) (by rw [hL]; omega)
  unfold f_Parser_indexOf
  rw [show (0 : Int) = ((0 : Nat) : Int) from rfl, i, List.drop_zero, hL]
theorem C_ixC {K : zK} {w : Int} {F : zF} {B : zB} (hK : 3002 ≤ K.1) (hw : r64 w) : f_Parser_indexOf K 0 w F B = some (fiL wC w 0, F, B) := C_index hK (by decide) (by decide) (by decide) (by decide) (by decide) hw
theorem C_ixL {K : zK} {w : Int} {F : zF} {B : zB} (hK : 3002 ≤ K.1) (hw : r64 w) : f_Parser_indexOf K 1 w F B = some (fiL wL w 0, F, B) := C_index hK (by decide) (by decide) (by decide) (by decide) (by decide) hw
theorem C_ixB {K : zK} {w : Int} {F : zF} {B : zB} (hK : 3002 ≤ K.1) (hw : r64 w) : f_Parser_indexOf K 2 w F B = some (fiL wB w 0, F, B) := C_index hK (by decide) (by decide) (by decide) (by decide) (by decide) hw
theorem C_ixO {K : zK} {w : Int} {F : zF} {B : zB} (hK : 3002 ≤ K.1) (hw : r64 w) : f_Parser_indexOf K 3 w F B = some (fiL wO w 0, F, B) := C_index hK (by decide) (by decide) (by decide) (by decide) (by decide) hw
noncomputable def nmF (k w : Int) : Int := by
  classical
  exact if k = 4 ∧ nmC w then 1 else 0
theorem nmF_1 {k w : Int} (h : k = 4 ∧ nmC w) : nmF k w = 1 := by unfold nmF; rw [if_pos h]
theorem nmF_0 {k w : Int} (h : ¬ (k = 4 ∧ nmC w)) : nmF k w = 0 := by unfold nmF; rw [if_neg h]
theorem C_isName {K : zK} {F : zF} {B : zB} (h : CX K F B) : f_Parser_isName K 0 F B = some (nmF (F 10 0 0) (F 10 0 2), F, B) := by
  obtain ⟨k3, k10, e11, hk, hv, hx, h5, hK⟩ := h
  have bC := fiL_b (w := F 10 0 2) (L := wC)
  have bL := fiL_b (w := F 10 0 2) (L := wL)
  have bB := fiL_b (w := F 10 0 2) (L := wB)
  have bO := fiL_b (w := F 10 0 2) (L := wO)
  have lC : wC.length = 4 := rfl
  have lL : wL.length = 8 := rfl
  have lB : wB.length = 6 := rfl
  have lO : wO.length = 9 := rfl
  unfold f_Parser_isName f_Parser_isName_67 f_Parser_isName_68
  rw [e11, if_pos ⟨(by first | decide | omega), k3⟩, if_pos ⟨(by first | decide | omega), k10⟩, if_pos (by first | decide | omega)]
  by_cases a : F 10 0 0 = 4
  · rw [if_pos a, C_ixC hK (by first | decide | omega)]
    simp only [zb_s]
    rw [if_pos (by first | decide | omega)]
    by_cases nC : fiL wC (F 10 0 2) 0 = -1
    · rw [if_pos nC, C_ixL hK (by first | decide | omega)]
      simp only [zb_s]
      rw [if_pos (by first | decide | omega)]
      by_cases nL : fiL wL (F 10 0 2) 0 = -1
      · rw [if_pos nL, C_ixB hK (by first | decide | omega)]
        simp only [zb_s]
        rw [if_pos (by first | decide | omega)]
        by_cases nB : fiL wB (F 10 0 2) 0 = -1
        · rw [if_pos nB, C_ixO hK (by first | decide | omega)]
          simp only [zb_s]
          rw [if_pos (by first | decide | omega)]
          by_cases nO : fiL wO (F 10 0 2) 0 = -1
          · rw [if_pos nO, if_pos (by decide), nmF_1 ⟨a, fiL_n.mp nC, fiL_n.mp nL, fiL_n.mp nB, fiL_n.mp nO⟩]
          · rw [if_neg nO, if_pos (by decide), nmF_0 (fun z => nO (fiL_n.mpr z.2.2.2.2))]
        · rw [if_neg nB, if_pos (by decide), nmF_0 (fun z => nB (fiL_n.mpr z.2.2.2.1))]
      · rw [if_neg nL, if_pos (by decide), nmF_0 (fun z => nL (fiL_n.mpr z.2.2.1))]
    · rw [if_neg nC, if_pos (by decide), nmF_0 (fun z => nC (fiL_n.mpr z.2.1))]
  · rw [if_neg a, if_pos (by decide), nmF_0 (fun z => a z.1)]
/-- the place of a word in the first m of a row, -1 if it isn't there -/
def fdR (row : Int → Int) (m w : Int) : Nat → Int → Int
  | 0, _ => -1
  | f + 1, k => if m ≤ k then -1 else if row k = w then k else fdR row m w f (k + 1)
theorem fdR_f {row : Int → Int} {m w : Int} : ∀ {f g : Nat} {k : Int}, m - k < f → m - k < g → 0 < f → 0 < g → fdR row m w f k = fdR row m w g k := by
  intro f
  induction f with
  | zero => intro g k _ _ h _; omega
  | succ f ih =>
    intro g k a b _ d
    obtain ⟨g, rfl⟩ : ∃ x, g = x + 1 := ⟨g - 1, (by first | decide | omega)⟩
    unfold fdR
    by_cases h : m ≤ k
    · rw [if_pos h, if_pos h]
    · rw [if_neg h, if_neg h]
      by_cases q : row k = w
      · rw [if_pos q, if_pos q]
      · rw [if_neg q, if_neg q]
        exact ih (by first | decide | omega) (by first | decide | omega) (by first | decide | omega) (by first | decide | omega)
theorem fdR_r {row : Int → Int} {m w : Int} : ∀ {f : Nat} {k : Int}, 0 ≤ k → fdR row m w f k = -1 ∨ (k ≤ fdR row m w f k ∧ fdR row m w f k < m ∧ row (fdR row m w f k) = w) := by
  intro f
  induction f with
  | zero => intro k _; exact Or.inl rfl
  | succ f ih =>
    intro k h0
    unfold fdR
    by_cases h : m ≤ k
    · rw [if_pos h]; exact Or.inl rfl
    · rw [if_neg h]
      by_cases q : row k = w
      · rw [if_pos q]; exact Or.inr ⟨Int.le_refl _, (by first | decide | omega), q⟩
      · rw [if_neg q]
        rcases ih (k := k + 1) (by first | decide | omega) with x | x
        · exact Or.inl x
        · exact Or.inr ⟨(by first | decide | omega), x.2⟩
theorem fdR_c {row row' : Int → Int} {m w : Int} : ∀ {f : Nat} {k : Int}, (∀ x, k ≤ x → x < m → row x = row' x) → fdR row m w f k = fdR row' m w f k := by
  intro f
  induction f with
  | zero => intro k _; rfl
  | succ f ih =>
    intro k h
    unfold fdR
    by_cases a : m ≤ k
    · rw [if_pos a, if_pos a]
    · rw [if_neg a, if_neg a, h k (by first | decide | omega) (by first | decide | omega), ih (fun x p q => h x (by first | decide | omega) q)]
def rowIs (row : Int → Int) : List Int → Int → Prop
  | [], _ => True
  | a :: L, k => row k = a ∧ rowIs row L (k + 1)
theorem fdR_L {row : Int → Int} {m w : Int} : ∀ {L : List Int} {f : Nat} {k : Int}, rowIs row L k → m = k + L.length → L.length < f → fdR row m w f k = fiL L w k := by
  intro L
  induction L with
  | nil =>
    intro f k _ hm hf
    obtain ⟨f, rfl⟩ : ∃ x, f = x + 1 := ⟨f - 1, by rw [List.length_nil] at hf; omega⟩
    unfold fdR fiL
    rw [if_pos (by rw [hm, List.length_nil]; omega)]
  | cons a L ih =>
    intro f k hr hm hf
    rw [List.length_cons] at hm hf
    obtain ⟨f, rfl⟩ : ∃ x, f = x + 1 := ⟨f - 1, (by first | decide | omega)⟩
    unfold fdR fiL
    rw [if_neg (by first | decide | omega), hr.1, ih hr.2 (by first | decide | omega) (by first | decide | omega)]
theorem L_fd {K : Nat} {c : Nat} {i : Int} {k : Nat} {m w : Int} {F : zF} {B : zB} (hi : 0 ≤ i ∧ i < nM c) (hl : m ≤ (lnM c i k : Int)) (hl2 : lnM c i k ≤ 2147483647) (hz : zk c k = (3, 1)) (hm : 0 ≤ m ∧ m ≤ 1000) (hr : ∀ x, 0 ≤ x → x < m → r64 (B c i k x)) (hw : r64 w) : ∀ {n : Nat} {x : Int}, 0 ≤ x → x ≤ m → m - x < n → f_M_find_3 K n x c i k m w F B = some (fdR (B c i k) m w n x, F, B) := by
  intro n
  induction n with
  | zero => intro x _ _ h; omega
  | succ n ih =>
    intro x a b d
    unfold f_M_find_3 fdR
    rw [if_pos (by first | decide | omega), if_pos (by first | decide | omega)]
    by_cases h : m ≤ x
    · rw [if_pos h, if_pos h]
    · rw [if_neg h, if_neg h, if_pos hi, if_pos (by first | decide | omega), if_pos hz, if_pos hl2, if_pos (hr x a (by first | decide | omega)), if_pos hw]
      by_cases q : B c i k x = w
      · rw [if_pos (zcmp_0.mpr q), if_pos q]
      · rw [if_neg (fun z => q (zcmp_0.mp z)), if_neg q]
        exact ih (by first | decide | omega) (by first | decide | omega) (by first | decide | omega)
theorem L_find {K : Nat} {c : Nat} {i : Int} {k : Nat} {m w : Int} {F : zF} {B : zB} (hK : 3002 ≤ K) (hi : 0 ≤ i ∧ i < nM c) (hl : m ≤ (lnM c i k : Int)) (hl2 : lnM c i k ≤ 2147483647) (hz : zk c k = (3, 1)) (hm : 0 ≤ m ∧ m ≤ 20) (hr : ∀ x, 0 ≤ x → x < m → r64 (B c i k x)) (hw : r64 w) : f_M_find K c i k m w F B = some (fdR (B c i k) m w 22 0, F, B) := by
  unfold f_M_find
  rw [L_fd hi hl hl2 hz (by first | decide | omega) hr hw (by first | decide | omega) (by first | decide | omega) (by first | decide | omega), fdR_f (f := K) (g := 22) (by first | decide | omega) (by first | decide | omega) (by first | decide | omega) (by first | decide | omega)]
/-- the reference's words -/
def MW (B : zB) : Prop := rowIs (B 14 0 13) wC 0 ∧ rowIs (B 14 0 14) wL 0 ∧ rowIs (B 14 0 15) wM 0
theorem rowIs_r {row : Int → Int} : ∀ {L : List Int} {k : Int}, rowIs row L k → (∀ x ∈ L, r64 x) → ∀ x, k ≤ x → x < k + L.length → r64 (row x) := by
  intro L
  induction L with
  | nil => intro k _ _ x a b; rw [List.length_nil] at b; omega
  | cons a L ih =>
    intro k h hr x p q
    rw [List.length_cons] at q
    by_cases e : x = k
    · rw [e, h.1]; exact hr a (by simp)
    · exact ih h.2 (fun y hy => hr y (by simp [hy])) x (by first | decide | omega) (by first | decide | omega)
theorem L_fC {K : Nat} {w : Int} {F : zF} {B : zB} (hK : 3002 ≤ K) (h : MW B) (hw : r64 w) : f_M_find K 14 0 13 4 w F B = some (fiL wC w 0, F, B) := by
  rw [L_find hK (by decide) (by decide) (by decide) (by decide) (by decide) (fun x a b => rowIs_r h.1 (by decide) x a (by rw [show wC.length = 4 from rfl]; omega)) hw, fdR_L h.1 (by decide) (by decide)]
theorem L_fL {K : Nat} {w : Int} {F : zF} {B : zB} (hK : 3002 ≤ K) (h : MW B) (hw : r64 w) : f_M_find K 14 0 14 8 w F B = some (fiL wL w 0, F, B) := by
  rw [L_find hK (by decide) (by decide) (by decide) (by decide) (by decide) (fun x a b => rowIs_r h.2.1 (by decide) x a (by rw [show wL.length = 8 from rfl]; omega)) hw, fdR_L h.2.1 (by decide) (by decide)]
theorem L_fM {K : Nat} {w : Int} {F : zF} {B : zB} (hK : 3002 ≤ K) (h : MW B) (hw : r64 w) : f_M_find K 14 0 15 15 w F B = some (fiL wM w 0, F, B) := by
  rw [L_find hK (by decide) (by decide) (by decide) (by decide) (by decide) (fun x a b => rowIs_r h.2.2 (by decide) x a (by rw [show wM.length = 15 from rfl]; omega)) hw, fdR_L h.2.2 (by decide) (by decide)]
theorem L_isName {K : Nat} {F : zF} {B : zB} {j : Int} (hK : 3002 ≤ K) (hm : MX F B j) (hW : MW B) : f_M_isName K F B = some (nmF (B 14 0 7 j) (B 14 0 11 j), F, B) := by
  obtain ⟨rfl, h0, hk, hv, hw⟩ := hm
  have bC := fiL_b (w := B 14 0 11 (F 14 0 16)) (L := wC)
  have bL := fiL_b (w := B 14 0 11 (F 14 0 16)) (L := wL)
  have bM := fiL_b (w := B 14 0 11 (F 14 0 16)) (L := wM)
  have lC : wC.length = 4 := rfl
  have lL : wL.length = 8 := rfl
  have lM : wM.length = 15 := rfl
  unfold f_M_isName f_M_isName_79 f_M_isName_80
  rw [if_pos (by first | decide | omega), if_pos (by first | decide | omega)]
  by_cases a : B 14 0 7 (F 14 0 16) = 4
  · have w4 := hw a
    rw [if_pos a, L_fM hK hW (by first | decide | omega)]
    simp only [zb_s]
    rw [if_pos (by first | decide | omega)]
    by_cases nM : fiL wM (B 14 0 11 (F 14 0 16)) 0 = -1
    · rw [if_neg (by first | decide | omega), if_pos (by first | decide | omega), L_fC hK hW (by first | decide | omega)]
      simp only [zb_s]
      rw [if_pos (by first | decide | omega)]
      by_cases nC : fiL wC (B 14 0 11 (F 14 0 16)) 0 = -1
      · rw [if_neg (by first | decide | omega), if_pos (by first | decide | omega), L_fL hK hW (by first | decide | omega)]
        simp only [zb_s]
        rw [if_pos (by first | decide | omega)]
        by_cases nL : fiL wL (B 14 0 11 (F 14 0 16)) 0 = -1
        · have z := wM_m.mp (fiL_n.mp nM)
          rw [if_neg (by first | decide | omega), if_pos (by decide), nmF_1 ⟨a, fiL_n.mp nC, fiL_n.mp nL, z.1, z.2⟩]
        · rw [if_pos (by first | decide | omega), if_pos (by decide), nmF_0 (fun z => nL (fiL_n.mpr z.2.2.1))]
      · rw [if_pos (by first | decide | omega), if_pos (by decide), nmF_0 (fun z => nC (fiL_n.mpr z.2.1))]
    · rw [if_pos (by first | decide | omega), if_pos (by decide), nmF_0 (fun z => nM (fiL_n.mpr (wM_m.mpr ⟨z.2.2.2.1, z.2.2.2.2⟩)))]
  · rw [if_neg a, if_pos (by decide), nmF_0 (fun z => a z.1)]
end
end
section
section
/-! ===== more of the class's steps over tokens, exactly ===== -/
theorem CX_b {K : zK} {F : zF} {B : zB} {k : Nat} {x v : Int} (h : CX K F B) : CX K F (zup4 B 3 0 k x v) := by
  obtain ⟨k3, k10, e11, hk, hv, hx, h5, hK⟩ := h
  refine ⟨k3, k10, e11, hk, hv, hx, fun j => ?_, hK⟩
  rw [zup4_v, if_neg (fun z => absurd z.1 (by decide))]
  exact h5 j
theorem advF_b {F : zF} {B : zB} {k : Nat} {x v : Int} : advF F (zup4 B 3 0 k x v) = advF F B := by
  unfold advF
  simp only [zup4_v]
  simp
theorem C_lN {K : zK} {F : zF} {B : zB} {w : Int} (h : CX K F B) (hl : 0 ≤ F 3 0 16 ∧ F 3 0 16 ≤ 6) (hr : ∀ x, 0 ≤ x → x < F 3 0 16 → r64 (B 3 0 12 x)) (hw : r64 w) : ∀ {n : Nat} {x : Int}, 0 ≤ x → x ≤ F 3 0 16 → F 3 0 16 - x < n → f_Parser_letNamed_2 K n x 0 w F B = some (if fdR (B 3 0 12) (F 3 0 16) w n x < 0 then -1 else B 3 0 13 (fdR (B 3 0 12) (F 3 0 16) w n x), F, B) := by
  obtain ⟨k3, k10, e11, hk, hv, hx, h5, hK⟩ := h
  intro n
  induction n with
  | zero => intro x _ _ h; omega
  | succ n ih =>
    intro x a b d
    unfold f_Parser_letNamed_2 fdR
    rw [if_pos ⟨(by first | decide | omega), k3⟩, if_pos (by first | decide | omega), if_pos (by first | decide | omega)]
    by_cases h : F 3 0 16 ≤ x
    · rw [if_pos h, if_pos h, if_pos (by decide)]
    · rw [if_neg h, if_neg h, if_pos (by first | decide | omega), if_pos (hr x a (by first | decide | omega)), if_pos hw]
      by_cases q : B 3 0 12 x = w
      · rw [if_pos (zcmp_0.mpr q), if_pos q, if_neg (by first | decide | omega)]
      · rw [if_neg (fun z => q (zcmp_0.mp z)), if_neg q]
        exact ih (by first | decide | omega) (by first | decide | omega) (by first | decide | omega)
theorem C_letNamed {K : zK} {F : zF} {B : zB} {w : Int} (h : CX K F B) (hl : 0 ≤ F 3 0 16 ∧ F 3 0 16 ≤ 6) (hr : ∀ x, 0 ≤ x → x < F 3 0 16 → r64 (B 3 0 12 x)) (hw : r64 w) : f_Parser_letNamed K 0 w F B = some (if fdR (B 3 0 12) (F 3 0 16) w 22 0 < 0 then -1 else B 3 0 13 (fdR (B 3 0 12) (F 3 0 16) w 22 0), F, B) := by
  have hK := h.2.2.2.2.2.2.2
  unfold f_Parser_letNamed
  rw [C_lN h hl hr hw (by first | decide | omega) (by first | decide | omega) (by first | decide | omega), fdR_f (f := K.1) (g := 22) (by first | decide | omega) (by first | decide | omega) (by first | decide | omega) (by first | decide | omega)]
theorem C_takeNumber {K : zK} {F : zF} {B : zB} {lo hi pw : Int} (h : CX K F B) (hl : r32 lo) (hh : r32 hi) (hp : pw = 0 ∨ pw = 1 ∧ 1 ≤ lo ∧ hi ≤ 32) : (F 10 0 0 = 3 → nOK (F 10 0 2) lo hi pw → f_Parser_takeNumber K 0 lo hi pw F B = some (1, advF (zup3 F 3 0 19 (F 10 0 2)) B, B)) ∧ (F 10 0 0 = 3 → ¬ nOK (F 10 0 2) lo hi pw → f_Parser_takeNumber K 0 lo hi pw F B = some (0, refF F 5, B)) ∧ (¬ F 10 0 0 = 3 → f_Parser_takeNumber K 0 lo hi pw F B = some (0, refF F 2, B)) := by
  have r2 := C_refuse (s := 2) h
  have r5 := C_refuse (s := 5) h
  have ad := C_adv (CX_u (k := 19) (v := F 10 0 2) h (by decide))
  obtain ⟨k3, k10, e11, hk, hv, hx, h5, hK⟩ := h
  have z79 : f_Parser_takeNumber_79 K 0 F B = some (1, advF (zup3 F 3 0 19 (F 10 0 2)) B, B) := by
    unfold f_Parser_takeNumber_79
    rw [e11, if_pos ⟨(by first | decide | omega), k3⟩, if_pos ⟨(by first | decide | omega), k10⟩, ad]; rfl
  have z73 : f_Parser_takeNumber_73 K 0 F B = some (0, refF F 5, B) := by
    unfold f_Parser_takeNumber_73
    rw [if_pos ⟨(by first | decide | omega), k3⟩, r5]; rfl
  unfold f_Parser_takeNumber f_Parser_takeNumber_47 f_Parser_takeNumber_48
  rw [e11, if_pos ⟨(by first | decide | omega), k3⟩, if_pos ⟨(by first | decide | omega), k10⟩, if_pos (by first | decide | omega)]
  refine ⟨fun a n => ?_, fun a n => ?_, fun a => ?_⟩
  · obtain ⟨n1, n2, n3⟩ := n
    rw [if_pos a, if_pos hl, if_pos (by first | decide | omega), if_pos (by first | decide | omega), if_neg (by rw [zcmp_lt]; omega), if_pos hh, if_pos (by first | decide | omega), if_neg (by rw [zcmp_g]; omega), if_pos (by decide), if_neg (by decide), if_pos (by first | decide | omega)]
    rcases hp with rfl | ⟨rfl, p1, p2⟩
    · rw [if_pos rfl, z79]
    · obtain ⟨r, b1, b2, b3⟩ := bitC (K := K) (F := F) (B := B) ⟨(F 10 0 2).toNat, (by first | decide | omega)⟩
      rw [show (((⟨(F 10 0 2).toNat, (by first | decide | omega)⟩ : Fin 33).val : Nat) : Int) = F 10 0 2 by show (((F 10 0 2).toNat : Nat) : Int) = _; omega] at b1 b3
      rw [if_neg (by decide), if_pos ⟨(by first | decide | omega), k3⟩, if_pos ⟨(by first | decide | omega), k10⟩, b1]
      simp only [zb_s]
      rw [if_pos b2, if_pos (b3.mpr (n3.resolve_left (by decide))), z79]
  · rw [if_pos a, if_pos hl, if_pos (by first | decide | omega), if_pos (by first | decide | omega), z73]
    by_cases n1 : F 10 0 2 < lo
    · rw [if_pos (zcmp_lt.mpr n1), if_pos (by decide), if_pos rfl]
    · rw [if_neg (fun z => n1 (zcmp_lt.mp z)), if_pos hh, if_pos (by first | decide | omega)]
      by_cases n2 : hi < F 10 0 2
      · rw [if_pos (zcmp_g.mpr n2), if_pos (by decide), if_pos rfl]
      · rw [if_neg (fun z => n2 (zcmp_g.mp z)), if_pos (by decide), if_neg (by decide), if_pos (by first | decide | omega)]
        rcases hp with rfl | ⟨rfl, p1, p2⟩
        · exact absurd ⟨(by first | decide | omega), (by first | decide | omega), Or.inl rfl⟩ n
        · obtain ⟨r, b1, b2, b3⟩ := bitC (K := K) (F := F) (B := B) ⟨(F 10 0 2).toNat, (by first | decide | omega)⟩
          rw [show (((⟨(F 10 0 2).toNat, (by first | decide | omega)⟩ : Fin 33).val : Nat) : Int) = F 10 0 2 by show (((F 10 0 2).toNat : Nat) : Int) = _; omega] at b1 b3
          rw [if_neg (by decide), if_pos ⟨(by first | decide | omega), k3⟩, if_pos ⟨(by first | decide | omega), k10⟩, b1]
          simp only [zb_s]
          rw [if_pos b2, if_neg (fun z => n ⟨(by first | decide | omega), (by first | decide | omega), Or.inr (b3.mp z)⟩), z73]
  · rw [if_neg a, r2]; rfl
def newB (B : zB) (x s p : Int) : zB := zup4 (zup4 (zup4 (zup4 (zup4 (zup4 (zup4 (zup4 B 3 0 0 x s) 3 0 1 x p) 3 0 2 x 0) 3 0 3 x (-1)) 3 0 4 x (-1)) 3 0 5 x (-1)) 3 0 6 x 0) 3 0 7 x 0
theorem C_newItem {K : zK} {F : zF} {B : zB} {s : Int} (h : CX K F B) (hi : 0 ≤ F 3 0 14 ∧ F 3 0 14 < 3000) : f_Parser_newItem K 0 s F B = some (F 3 0 14, zup3 F 3 0 14 (F 3 0 14 + 1), newB B (F 3 0 14) s (F 10 0 1)) := by
  obtain ⟨k3, k10, e11, hk, hv, hx, h5, hK⟩ := h
  have z : zmin (F 3 0 14) 2999 = F 3 0 14 := by unfold zmin; rw [if_neg (by first | decide | omega)]
  unfold f_Parser_newItem
  rw [z, e11, if_pos ⟨(by first | decide | omega), k3⟩, if_pos (by first | decide | omega), if_pos (by first | decide | omega), if_pos ⟨(by first | decide | omega), k10⟩]
  rfl
theorem CX_n {K : zK} {F : zF} {B : zB} {x s p : Int} (h : CX K F B) : CX K F (newB B x s p) := CX_b (CX_b (CX_b (CX_b (CX_b (CX_b (CX_b (CX_b h)))))))
theorem advF_n {F : zF} {B : zB} {x s p : Int} : advF F (newB B x s p) = advF F B := by
  unfold newB
  simp only [advF_b]
def isrt (k v : Int) : Int := if k = 4 then (if fiL wB v 0 = -1 then (if v = 114 then 0 else -1) else 4 + fiL wB v 0) else if k = 2 then 0 else if k = 5 then (if v = 60 then 0 else if v = 124 then 1 else if v = 33 then 2 else if v = 91 then 3 else -1) else -1
theorem fiL_c {w : Int} {L : List Int} : -1 ≤ fiL L w 0 ∧ (fiL L w 0 = -1 ∨ fiL L w 0 < L.length) := by
  rcases fiL_r (w := w) (L := L) (k := 0) (by first | decide | omega) with ⟨x, y⟩ | ⟨x, y, z⟩ <;> omega
theorem isrt_r (k v : Int) : -1 ≤ isrt k v ∧ isrt k v ≤ 9 := by
  have b := fiL_c (w := v) (L := wB)
  have l : wB.length = 6 := rfl
  unfold isrt
  split
  · split
    · split <;> omega
    · omega
  · split
    · omega
    · split
      · split
        · omega
        · split
          · omega
          · split
            · omega
            · split <;> omega
      · omega
theorem C_itemSort {K : zK} {F : zF} {B : zB} (h : CX K F B) : f_Parser_itemSort K 0 F B = some (isrt (F 10 0 0) (F 10 0 2), F, B) := by
  have s60 := C_isSign (c := 60) h (by decide)
  have s124 := C_isSign (c := 124) h (by decide)
  have s33 := C_isSign (c := 33) h (by decide)
  have s91 := C_isSign (c := 91) h (by decide)
  obtain ⟨k3, k10, e11, hk, hv, hx, h5, hK⟩ := h
  have b := fiL_b (w := F 10 0 2) (L := wB)
  have l : wB.length = 6 := rfl
  unfold f_Parser_itemSort f_Parser_itemSort_53 f_Parser_itemSort_77 f_Parser_itemSort_124 isrt
  rw [e11, if_pos ⟨(by first | decide | omega), k3⟩, if_pos ⟨(by first | decide | omega), k10⟩, if_pos (by first | decide | omega)]
  by_cases a : F 10 0 0 = 4
  · rw [if_pos a, if_pos a, C_ixB hK (by first | decide | omega)]
    simp only [zb_s]
    rw [if_pos (by first | decide | omega)]
    by_cases n : fiL wB (F 10 0 2) 0 = -1
    · rw [if_pos n, if_pos n, e11, if_pos ⟨(by first | decide | omega), k10⟩, if_pos (by first | decide | omega)]
      by_cases w : F 10 0 2 = 114
      · rw [if_pos (zcmp_0.mpr w), if_pos w]
      · rw [if_neg (fun z => w (zcmp_0.mp z)), if_neg w]
    · rw [if_neg n, if_neg n]
  · rw [if_neg a, if_neg a]
    by_cases a2 : F 10 0 0 = 2
    · rw [if_pos a2, if_pos a2]
    · rw [if_neg a2, if_neg a2, s60]
      have r60 := sgn_r F 60
      have r124 := sgn_r F 124
      have r33 := sgn_r F 33
      have r91 := sgn_r F 91
      simp only [zb_s]
      rw [if_pos (by first | decide | omega)]
      by_cases a5 : F 10 0 0 = 5
      · rw [if_pos a5]
        by_cases c60 : F 10 0 2 = 60
        · rw [if_neg (by rw [sgn_0]; exact fun z => z ⟨a5, c60⟩), if_pos c60]
        · rw [if_pos (by rw [sgn_0]; exact fun z => c60 z.2), if_neg c60, e11, if_pos ⟨(by first | decide | omega), k10⟩, s124]
          simp only [zb_s]
          rw [if_pos (by first | decide | omega)]
          by_cases c124 : F 10 0 2 = 124
          · rw [if_neg (by rw [sgn_0]; exact fun z => z ⟨a5, c124⟩), if_pos c124]
          · rw [if_pos (by rw [sgn_0]; exact fun z => c124 z.2), if_neg c124, e11, if_pos ⟨(by first | decide | omega), k10⟩, s33]
            simp only [zb_s]
            rw [if_pos (by first | decide | omega)]
            by_cases c33 : F 10 0 2 = 33
            · rw [if_neg (by rw [sgn_0]; exact fun z => z ⟨a5, c33⟩), if_pos c33]
            · rw [if_pos (by rw [sgn_0]; exact fun z => c33 z.2), if_neg c33, e11, if_pos ⟨(by first | decide | omega), k10⟩, s91]
              simp only [zb_s]
              rw [if_pos (by first | decide | omega)]
              by_cases c91 : F 10 0 2 = 91
              · rw [if_neg (by rw [sgn_0]; exact fun z => z ⟨a5, c91⟩), if_pos c91]
              · rw [if_pos (by rw [sgn_0]; exact fun z => c91 z.2), if_neg c91]
      · have n : ∀ c, sgn F c = 0 := fun c => sgn_0.mpr (fun z => a5 z.1)
        rw [if_neg a5, if_pos (n 60), e11, if_pos ⟨(by first | decide | omega), k10⟩, s124]
        simp only [zb_s]
        rw [if_pos (by first | decide | omega), if_pos (n 124), e11, if_pos ⟨(by first | decide | omega), k10⟩, s33]
        simp only [zb_s]
        rw [if_pos (by first | decide | omega), if_pos (n 33), e11, if_pos ⟨(by first | decide | omega), k10⟩, s91]
        simp only [zb_s]
        rw [if_pos (by first | decide | omega), if_pos (n 91)]
def pitB (F : zF) (B : zB) (x : Int) : zB := zup4 (zup4 (zup4 (zup4 B 3 0 8 (F 3 0 15) (F 10 0 3)) 3 0 9 (F 3 0 15) (F 10 0 4)) 3 0 10 (F 3 0 15) (F 10 0 1)) 3 0 6 x (B 3 0 6 x + 1)
theorem C_takePitch {K : zK} {F : zF} {B : zB} {x : Int} (h : CX K F B) (hp : 0 ≤ F 3 0 15 ∧ F 3 0 15 < 1500) (hx : 0 ≤ x ∧ x < 3000) : f_Parser_takePitch K 0 x F B = some (0, advF (zup3 F 3 0 15 (F 3 0 15 + 1)) B, pitB F B x) := by
  have ad := C_adv (B := pitB F B x) (CX_b (CX_b (CX_b (CX_b (CX_u (k := 15) (v := F 3 0 15 + 1) h (by decide))))))
  have ea : advF (zup3 F 3 0 15 (F 3 0 15 + 1)) (pitB F B x) = advF (zup3 F 3 0 15 (F 3 0 15 + 1)) B := by unfold pitB; simp only [advF_b]
  have e6 : (zup4 (zup4 (zup4 B 3 0 8 (F 3 0 15) (F 10 0 3)) 3 0 9 (F 3 0 15) (F 10 0 4)) 3 0 10 (F 3 0 15) (F 10 0 1)) 3 0 6 x = B 3 0 6 x := by simp [zup4_v]
  obtain ⟨k3, k10, e11, hk, hv, hx', h5, hK⟩ := h
  unfold f_Parser_takePitch f_Parser_takePitch_80
  rw [e11, if_pos ⟨(by first | decide | omega), k3⟩, if_pos (by first | decide | omega), if_neg (by first | decide | omega), if_pos ⟨(by first | decide | omega), k10⟩, if_pos hp, if_pos hx, if_pos ⟨(by first | decide | omega), k3⟩, e6]
  rw [show (zup3 F 3 0 15 (F 3 0 15 + 1)) 3 0 11 = 0 by simp [zup3_v, e11], if_pos ⟨(by first | decide | omega), k10⟩]
  rw [show zup4 (zup4 (zup4 (zup4 B 3 0 8 (F 3 0 15) (F 10 0 3)) 3 0 9 (F 3 0 15) (F 10 0 4)) 3 0 10 (F 3 0 15) (F 10 0 1)) 3 0 6 x (B 3 0 6 x + 1) = pitB F B x from rfl, ad, ea]
  rfl
theorem C_takeLoud {K : zK} {F : zF} {B : zB} {x : Int} (h : CX K F B) (hx : 0 ≤ x ∧ x < 3000) : (F 10 0 0 = 4 → F 10 0 2 ∈ wL → f_Parser_takeLoud K 0 x F B = some (1, advF F B, zup4 B 3 0 2 x (fiL wL (F 10 0 2) 0))) ∧ (¬ (F 10 0 0 = 4 ∧ F 10 0 2 ∈ wL) → f_Parser_takeLoud K 0 x F B = some (0, refF F 2, B)) := by
  have r2 := C_refuse (s := 2) h
  have ad := C_adv (CX_b (k := 2) (x := x) (v := fiL wL (F 10 0 2) 0) h)
  rw [advF_b] at ad
  obtain ⟨k3, k10, e11, hk, hv, hx', h5, hK⟩ := h
  have b := fiL_b (w := F 10 0 2) (L := wL)
  have l : wL.length = 8 := rfl
  unfold f_Parser_takeLoud f_Parser_takeLoud_28
  rw [e11, if_pos ⟨(by first | decide | omega), k3⟩, if_pos ⟨(by first | decide | omega), k10⟩, if_pos (by first | decide | omega)]
  refine ⟨fun a m => ?_, fun n => ?_⟩
  · rw [if_pos a, C_ixL hK (by first | decide | omega)]
    simp only [zb_s]
    rw [if_pos (by first | decide | omega), if_neg (fun z => fiL_n.mp z m), if_pos ⟨(by first | decide | omega), k3⟩, if_pos hx, e11, if_pos ⟨(by first | decide | omega), k10⟩, ad]
    rfl
  · by_cases a : F 10 0 0 = 4
    · rw [if_pos a, C_ixL hK (by first | decide | omega)]
      simp only [zb_s]
      rw [if_pos (by first | decide | omega), if_pos (fiL_n.mpr (fun z => n ⟨a, z⟩)), if_pos ⟨(by first | decide | omega), k3⟩, r2]
      rfl
    · rw [if_neg a, if_pos (by decide), if_pos rfl, if_pos ⟨(by first | decide | omega), k3⟩, r2]
      rfl
end
end
section
section
/-! ===== both sides stepped together ===== -/
def zP (x y : zO) (Q : Int → zF → zB → Int → zF → zB → Prop) : Prop := ∃ r F B r' F' B', x = some (r, F, B) ∧ y = some (r', F', B') ∧ Q r F B r' F' B'
theorem zP_s {r r' : Int} {F F' : zF} {B B' : zB} {Q : Int → zF → zB → Int → zF → zB → Prop} (h : Q r F B r' F' B') : zP (some (r, F, B)) (some (r', F', B')) Q := ⟨r, F, B, r', F', B', rfl, rfl, h⟩
theorem zP_m {x y : zO} {R Q : Int → zF → zB → Int → zF → zB → Prop} (h : zP x y R) (hk : ∀ r F B r' F' B', R r F B r' F' B' → Q r F B r' F' B') : zP x y Q := by
  obtain ⟨r, F, B, r', F', B', e, e', q⟩ := h
  exact ⟨r, F, B, r', F', B', e, e', hk _ _ _ _ _ _ q⟩
theorem zP_c {x y : zO} {k k' : Int → zF → zB → zO} {R Q : Int → zF → zB → Int → zF → zB → Prop} (h : zP x y R) (hk : ∀ r F B r' F' B', R r F B r' F' B' → zP (k r F B) (k' r' F' B') Q) : zP (zbind x k) (zbind y k') Q := by
  obtain ⟨r, F, B, r', F', B', e, e', q⟩ := h
  rw [e, e']
  exact hk _ _ _ _ _ _ q
theorem zP_cl {x y : zO} {k : Int → zF → zB → zO} {R Q : Int → zF → zB → Int → zF → zB → Prop} (h : zP x y R) (hk : ∀ r F B r' F' B', R r F B r' F' B' → zP (k r F B) (some (r', F', B')) Q) : zP (zbind x k) y Q := by
  obtain ⟨r, F, B, r', F', B', e, e', q⟩ := h
  rw [e, e']
  exact hk _ _ _ _ _ _ q
/-- the token that the class has come to is the reference's token j -/
def CUR (F : zF) (B Bm : zB) (N j : Int) : Prop := (0 ≤ j ∧ j ≤ N) ∧ F 10 0 0 = Bm 14 0 7 j ∧ F 10 0 1 = Bm 14 0 8 j ∧ F 10 0 2 = B 10 0 7 j ∧ (Bm 14 0 7 j = 2 → F 10 0 3 = Bm 14 0 9 j ∧ F 10 0 4 = Bm 14 0 10 j) ∧ F 10 0 8 = (if j = N then N else j + 1)
theorem advF_o {F : zF} {B : zB} {c k : Nat} {i : Int} (h : ¬ (c = 10 ∧ i = 0)) : advF F B c i k = F c i k := by
  have n : ∀ x, ¬ (c = 10 ∧ i = 0 ∧ k = x) := fun x z => h ⟨z.1, z.2.1⟩
  unfold advF
  split
  · simp only [zup3_v]
    simp only [if_neg (n _)]
  · simp only [zup3_v]
    simp only [if_neg (n _)]
theorem CUR_adv {F : zF} {B Bm : zB} {N j : Int} (hT : TK B Bm N) (h : CUR F B Bm N j) (hj : ¬ Bm 14 0 7 j = 0) : CUR (advF F B) B Bm N (j + 1) := by
  obtain ⟨n0, n1, hT⟩ := hT
  obtain ⟨⟨j0, j1⟩, hk, hp, hv, hs, hx⟩ := h
  have t0 := (hT j j0 j1).2.2.2.1
  have jN : ¬ j = N := fun z => hj (t0.mpr z)
  rw [if_neg jN] at hx
  obtain ⟨a1, a2, a3, a4, a5, a6, a7, a8, a9, a10, a11⟩ := hT (j + 1) (by first | decide | omega) (by first | decide | omega)
  unfold CUR advF
  rw [hx]
  by_cases e : B 10 0 5 (j + 1) = 2
  · have e' : Bm 14 0 7 (j + 1) = 2 := by omega
    obtain ⟨b1, b2, b3, b4, b5⟩ := a5 e'
    have n : ¬ j + 1 = N := fun z => by have := a4.mpr z; omega
    rw [if_pos e, if_neg n]
    simp only [zup3_v]
    have d1 : zdv (B 10 0 7 (j + 1)) 8 = Bm 14 0 9 (j + 1) := by rw [zdv_e (by first | decide | omega) (by first | decide | omega) (by decide) (by decide)]; omega
    have d2 : zrm (B 10 0 7 (j + 1)) 8 - 2 = Bm 14 0 10 (j + 1) := by rw [zrm_e (by first | decide | omega) (by first | decide | omega) (by decide) (by decide)]; omega
    refine ⟨(by first | decide | omega), ?_, ?_, ?_, fun _ => ⟨?_, ?_⟩, ?_⟩
    · simpa using a1
    · simpa using a2
    · simp
    · simpa using d1
    · simpa using d2
    · simp; omega
  · have e' : ¬ Bm 14 0 7 (j + 1) = 2 := by omega
    rw [if_neg e]
    simp only [zup3_v]
    refine ⟨(by first | decide | omega), ?_, ?_, ?_, fun z => absurd z e', ?_⟩
    · simpa using a1
    · simpa using a2
    · simp
    · simp
      by_cases q : j + 1 = N
      · rw [if_pos q, if_pos (Or.inl (by have := a4.mpr q; omega))]; exact q
      · rw [if_neg q, if_neg]
        rintro (z | z)
        · exact q (a4.mp (by first | decide | omega))
        · omega
def lenV (n p : Int) : Int := zdv (zdv 128 n * ztv 4 p) 4
/-- what both parsers stand on: tokens, words, room -/
def EV (K : zK) (Km : Nat) (N : Int) (B Bm : zB) : Prop := TK B Bm N ∧ MW Bm ∧ (∀ j, r32 (B 10 0 5 j)) ∧ 0 < K.2 3 ∧ 0 < K.2 10 ∧ 3002 ≤ K.1 ∧ 3002 ≤ Km
/-- both parsers at token j, and no fault yet -/
def PS (N j : Int) (F : zF) (B : zB) (Fm : zF) (Bm : zB) : Prop := F 3 0 11 = 0 ∧ CUR F B Bm N j ∧ Fm 14 0 16 = j ∧ Fm 14 0 17 = 0 ∧ F 3 0 21 = 0 ∧ (F 3 0 18 = Fm 14 0 19 ∧ 0 ≤ F 3 0 18 ∧ F 3 0 18 ≤ 8) ∧ (F 3 0 18 = 0 ∨ F 3 0 20 = lenV (Fm 14 0 20) (Fm 14 0 21) ∧ pw2 (Fm 14 0 20) ∧ 0 ≤ Fm 14 0 21 ∧ Fm 14 0 21 ≤ 2) ∧ (0 ≤ F 3 0 15 ∧ 2 * F 3 0 15 ≤ Bm 14 0 8 j)
theorem PS_CX {K : zK} {Km : Nat} {N j : Int} {F : zF} {B : zB} {Fm : zF} {Bm : zB} (hE : EV K Km N B Bm) (h : PS N j F B Fm Bm) : CX K F B := by
  obtain ⟨⟨n0, n1, hT⟩, hW, h5, k3, k10, k1, km⟩ := hE
  obtain ⟨e11, ⟨⟨j0, j1⟩, hk, hp, hv, hs, hx⟩, _⟩ := h
  obtain ⟨a1, a2, a3, a4, a5, a6, a7, a8, a9, a10, a11⟩ := hT j j0 j1
  refine ⟨k3, k10, e11, (by first | decide | omega), (by first | decide | omega), ?_, h5, k1⟩
  rw [hx]
  split <;> omega
theorem PS_MX {K : zK} {Km : Nat} {N j : Int} {F : zF} {B : zB} {Fm : zF} {Bm : zB} (hE : EV K Km N B Bm) (h : PS N j F B Fm Bm) : MX Fm Bm j := by
  obtain ⟨⟨n0, n1, hT⟩, hW, h5, k3, k10, k1, km⟩ := hE
  obtain ⟨e11, ⟨⟨j0, j1⟩, hk, hp, hv, hs, hx⟩, ht, _⟩ := h
  obtain ⟨a1, a2, a3, a4, a5, a6, a7, a8, a9, a10, a11⟩ := hT j j0 j1
  refine ⟨ht, (by first | decide | omega), (by first | decide | omega), ?_, fun z => ?_⟩
  · rintro (z | z)
    · have := a8 z; omega
    · have := a6 z; omega
  · have := a7 z; omega
theorem PS_sg {K : zK} {Km : Nat} {N j c : Int} {F : zF} {B : zB} {Fm : zF} {Bm : zB} (hE : EV K Km N B Bm) (h : PS N j F B Fm Bm) : sgn F c = sgm Bm j c := by
  obtain ⟨⟨n0, n1, hT⟩, _⟩ := hE
  obtain ⟨e11, ⟨⟨j0, j1⟩, hk, hp, hv, hs, hx⟩, ht, _⟩ := h
  obtain ⟨a1, a2, a3, a4, a5, a6, a7, a8, a9, a10, a11⟩ := hT j j0 j1
  unfold sgn sgm
  rw [hk, hv]
  by_cases a : Bm 14 0 7 j = 5
  · rw [(a8 a).1]
  · rw [if_neg (fun z => a z.1), if_neg (fun z => a z.1)]
theorem PS_wd {K : zK} {Km : Nat} {N j c : Int} {F : zF} {B : zB} {Fm : zF} {Bm : zB} (hE : EV K Km N B Bm) (h : PS N j F B Fm Bm) : wdn F c = wdm Bm j c := by
  obtain ⟨⟨n0, n1, hT⟩, _⟩ := hE
  obtain ⟨e11, ⟨⟨j0, j1⟩, hk, hp, hv, hs, hx⟩, ht, _⟩ := h
  obtain ⟨a1, a2, a3, a4, a5, a6, a7, a8, a9, a10, a11⟩ := hT j j0 j1
  unfold wdn wdm
  rw [hk, hv]
  by_cases a : Bm 14 0 7 j = 4
  · rw [(a7 a).1]
  · rw [if_neg (fun z => a z.1), if_neg (fun z => a z.1)]
theorem PS_step {K : zK} {Km : Nat} {N j : Int} {F : zF} {B : zB} {Fm : zF} {Bm : zB} (hE : EV K Km N B Bm) (h : PS N j F B Fm Bm) (hj : ¬ Bm 14 0 7 j = 0) : PS N (j + 1) (advF F B) B (zup3 Fm 14 0 16 (j + 1)) Bm := by
  have hc := CUR_adv hE.1 h.2.1 hj
  obtain ⟨⟨n0, n1, hT⟩, _⟩ := hE
  obtain ⟨e11, ⟨⟨j0, j1⟩, hk, hp, hv, hs, hx⟩, ht, hf, hw, hd, hl, hq⟩ := h
  obtain ⟨a1, a2, a3, a4, a5, a6, a7, a8, a9, a10, a11⟩ := hT j j0 j1
  have jN : j < N := by have : ¬ j = N := fun z => hj (a4.mpr z); omega
  have i := a11 jN
  refine ⟨?_, hc, ?_, ?_, ?_, ?_, ?_, ?_⟩
  · rw [advF_o (by decide)]; exact e11
  · simp [zup3_v]
  · simp [zup3_v]; exact hf
  · rw [advF_o (by decide)]; exact hw
  · rw [advF_o (by decide)]; simp [zup3_v]; exact hd
  · rw [advF_o (by decide), advF_o (by decide)]; simp [zup3_v]; exact hl
  · rw [advF_o (by decide)]; split at i <;> omega
/-- a fault, the same on both sides -/
def ERR (F Fm : zF) : Prop := (F 3 0 21 = Fm 14 0 17 + 16 * Fm 14 0 18 ∧ 0 ≤ Fm 14 0 18 ∧ Fm 14 0 18 ≤ 3000) ∧ bad Fm
theorem PS_err {K : zK} {Km : Nat} {N j s s' : Int} {F : zF} {B : zB} {Fm : zF} {Bm : zB} (hE : EV K Km N B Bm) (h : PS N j F B Fm Bm) (hs : s' = if Bm 14 0 7 j = 1 then 1 else s) (h1 : 1 ≤ s ∧ s ≤ 15) : ERR (refF F s) (errM Fm Bm s') := by
  obtain ⟨e11, ⟨⟨j0, j1⟩, hk, hp, hv, hsx, hx⟩, ht, hf, hw, hd, hl, hq⟩ := h
  have tp := (hE.1.2.2 j j0 j1).2.2.2.2.2.2.2.2.2.1
  unfold ERR refF errM bad
  simp only [zup3_v]
  simp
  rw [hk, hp, ht, hs]
  split <;> omega
theorem PS_err2 {K : zK} {Km : Nat} {N j : Int} {F : zF} {B : zB} {Fm : zF} {Bm : zB} (hE : EV K Km N B Bm) (h : PS N j F B Fm Bm) : ERR (refF F 2) (errM Fm Bm (wr Bm j)) := PS_err hE h rfl (by decide)
theorem PS_u {N j v : Int} {k : Nat} {F : zF} {B : zB} {Fm : zF} {Bm : zB} (h : PS N j F B Fm Bm) (hk : k = 14 ∨ k = 16 ∨ k = 17 ∨ k = 19) : PS N j (zup3 F 3 0 k v) B Fm Bm := by
  have e : ∀ c i x, ¬ (c = 3 ∧ i = 0 ∧ x = k) → (zup3 F 3 0 k v) c i x = F c i x := fun c i x n => by rw [zup3_v, if_neg n]
  have g : ∀ x, ¬ x = k → (zup3 F 3 0 k v) 3 0 x = F 3 0 x := fun x n => e 3 0 x (fun z => n z.2.2)
  have g10 : ∀ x, (zup3 F 3 0 k v) 10 0 x = F 10 0 x := fun x => e 10 0 x (fun z => absurd z.1 (by decide))
  unfold PS CUR at *
  rw [g 11 (by first | decide | omega), g 21 (by first | decide | omega), g 18 (by first | decide | omega), g 20 (by first | decide | omega), g 15 (by first | decide | omega)]
  simp only [g10]
  exact h
theorem PS_d {N j : Int} {F : zF} {B : zB} {Fm : zF} {Bm : zB} {d : Int} (h : PS N j F B Fm Bm) (hd : 0 ≤ d ∧ d ≤ 8) (hpw : F 3 0 20 = lenV (Fm 14 0 20) (Fm 14 0 21) ∧ pw2 (Fm 14 0 20) ∧ 0 ≤ Fm 14 0 21 ∧ Fm 14 0 21 ≤ 2) : PS N j (zup3 F 3 0 18 d) B (zup3 Fm 14 0 19 d) Bm := by
  obtain ⟨e11, hc, ht, hf, hw, hd', hl, hq⟩ := h
  unfold PS CUR at *
  simp only [zup3_v]
  simp
  exact ⟨e11, hc, ht, hf, hw, hd, Or.inr hpw, hq⟩
theorem PS_pw {N j : Int} {F : zF} {B : zB} {Fm : zF} {Bm : zB} (h : PS N j F B Fm Bm) (hd : 1 ≤ F 3 0 18) : F 3 0 20 = lenV (Fm 14 0 20) (Fm 14 0 21) ∧ pw2 (Fm 14 0 20) ∧ 0 ≤ Fm 14 0 21 ∧ Fm 14 0 21 ≤ 2 := by
  rcases h.2.2.2.2.2.2.1 with z | z
  · omega
  · exact z
theorem PS_B {N j : Int} {F : zF} {B B' : zB} {Fm : zF} {Bm Bm' : zB} (h : PS N j F B Fm Bm) (hB : ∀ k, B' 10 0 k = B 10 0 k) (hm : ∀ k, k ≤ 11 → Bm' 14 0 k = Bm 14 0 k) : PS N j F B' Fm Bm' := by
  unfold PS CUR at *
  rw [hB 7, hm 7 (by decide), hm 8 (by decide), hm 9 (by decide), hm 10 (by decide)]
  exact h
theorem EV_B {K : zK} {Km : Nat} {N : Int} {B B' Bm Bm' : zB} (h : EV K Km N B Bm) (hB : ∀ k, B' 10 0 k = B 10 0 k) (hm : ∀ k, k ≤ 15 → Bm' 14 0 k = Bm 14 0 k) : EV K Km N B' Bm' := by
  obtain ⟨⟨n0, n1, hT⟩, hW, h5, hK⟩ := h
  refine ⟨⟨n0, n1, fun j a b => ?_⟩, ?_, fun j => ?_, hK⟩
  · have t := hT j a b
    unfold TKj at *
    rw [hB 5, hB 6, hB 7, hm 7 (by decide), hm 8 (by decide), hm 9 (by decide), hm 10 (by decide), hm 11 (by decide)]
    exact t
  · unfold MW at *
    rw [hm 13 (by decide), hm 14 (by decide), hm 15 (by decide)]
    exact hW
  · rw [hB 5]; exact h5 j
def fF (F F' : zF) : Prop := ∀ c i k, ¬ (c = 10 ∧ i = 0) → ¬ (c = 3 ∧ i = 0 ∧ (k = 14 ∨ k = 15 ∨ 18 ≤ k)) → F' c i k = F c i k
def fG (F F' : zF) : Prop := ∀ c i k, ¬ (c = 14 ∧ i = 0 ∧ 16 ≤ k ∧ k ≤ 21) → F' c i k = F c i k
def fB (lo pl : Int) (B B' : zB) : Prop := ∀ c i k x, ¬ (c = 3 ∧ i = 0 ∧ k ≤ 7 ∧ lo ≤ x) → ¬ (c = 3 ∧ i = 0 ∧ 8 ≤ k ∧ k ≤ 10 ∧ pl ≤ x) → B' c i k x = B c i k x
def fH (fr : Int) (B B' : zB) : Prop := ∀ c i k x, ¬ (c = 14 ∧ i = 0 ∧ 30 ≤ k ∧ k ≤ 34 ∧ fr ≤ x) → B' c i k x = B c i k x
theorem fF_r {F : zF} : fF F F := fun _ _ _ _ _ => rfl
theorem fG_r {F : zF} : fG F F := fun _ _ _ _ => rfl
theorem fB_r {lo pl : Int} {B : zB} : fB lo pl B B := fun _ _ _ _ _ _ => rfl
theorem fH_r {fr : Int} {B : zB} : fH fr B B := fun _ _ _ _ _ => rfl
theorem fF_t {F F' F'' : zF} (h : fF F F') (h' : fF F' F'') : fF F F'' := fun c i k a b => by rw [h' c i k a b, h c i k a b]
theorem fG_t {F F' F'' : zF} (h : fG F F') (h' : fG F' F'') : fG F F'' := fun c i k a => by rw [h' c i k a, h c i k a]
theorem fB_t {lo pl : Int} {B B' B'' : zB} (h : fB lo pl B B') (h' : fB lo pl B' B'') : fB lo pl B B'' := fun c i k x a b => by rw [h' c i k x a b, h c i k x a b]
theorem fH_t {fr : Int} {B B' B'' : zB} (h : fH fr B B') (h' : fH fr B' B'') : fH fr B B'' := fun c i k x a => by rw [h' c i k x a, h c i k x a]
theorem fB_m {lo pl lo' pl' : Int} {B B' : zB} (h : fB lo pl B B') (h1 : lo' ≤ lo) (h2 : pl' ≤ pl) : fB lo' pl' B B' := fun c i k x a b => h c i k x (fun z => a ⟨z.1, z.2.1, z.2.2.1, (by first | decide | omega)⟩) (fun z => b ⟨z.1, z.2.1, z.2.2.1, z.2.2.2.1, (by first | decide | omega)⟩)
theorem fH_m {fr fr' : Int} {B B' : zB} (h : fH fr B B') (h1 : fr' ≤ fr) : fH fr' B B' := fun c i k x a => h c i k x (fun z => a ⟨z.1, z.2.1, z.2.2.1, z.2.2.2.1, (by first | decide | omega)⟩)
theorem fF_a {F F' : zF} {B : zB} (h : fF F F') : fF F (advF F' B) := fun c i k a b => by rw [advF_o a]; exact h c i k a b
theorem fF_u {F F' : zF} {k : Nat} {v : Int} (h : fF F F') (hk : k = 14 ∨ k = 15 ∨ 18 ≤ k) : fF F (zup3 F' 3 0 k v) := fun c i x a b => by
  rw [zup3_v, if_neg (fun z => b ⟨z.1, z.2.1, by rw [z.2.2]; exact hk⟩)]; exact h c i x a b
theorem fF_e {F F' : zF} {s : Int} (h : fF F F') : fF F (refF F' s) := fF_u h (by decide)
theorem fG_u {F F' : zF} {k : Nat} {v : Int} (h : fG F F') (h1 : 16 ≤ k) (h2 : k ≤ 21) : fG F (zup3 F' 14 0 k v) := fun c i x a => by
  rw [zup3_v, if_neg (fun z => a ⟨z.1, z.2.1, by rw [z.2.2]; exact h1, by rw [z.2.2]; exact h2⟩)]; exact h c i x a
theorem fG_e {F F' : zF} {B : zB} {s : Int} (h : fG F F') : fG F (errM F' B s) := fG_u (fG_u h (by decide) (by decide)) (by decide) (by decide)
theorem fB_u {lo pl : Int} {B B' : zB} {k : Nat} {x v : Int} (h : fB lo pl B B') (hk : k ≤ 7 ∧ lo ≤ x ∨ 8 ≤ k ∧ k ≤ 10 ∧ pl ≤ x) : fB lo pl B (zup4 B' 3 0 k x v) := fun c i y z a b => by
  rw [zup4_v, if_neg]
  · exact h c i y z a b
  · rintro ⟨rfl, rfl, rfl, rfl⟩
    rcases hk with q | q
    · exact a ⟨rfl, rfl, q⟩
    · exact b ⟨rfl, rfl, q⟩
theorem fH_u {fr : Int} {B B' : zB} {k : Nat} {x v : Int} (h : fH fr B B') (h1 : 30 ≤ k) (h2 : k ≤ 34) (h3 : fr ≤ x) : fH fr B (zup4 B' 14 0 k x v) := fun c i y z a => by
  rw [zup4_v, if_neg]
  · exact h c i y z a
  · rintro ⟨rfl, rfl, rfl, rfl⟩
    exact a ⟨rfl, rfl, h1, h2, h3⟩
theorem fB_10 {lo pl : Int} {B B' : zB} (h : fB lo pl B B') (k : Nat) : B' 10 0 k = B 10 0 k := by
  funext x; exact h 10 0 k x (fun z => absurd z.1 (by decide)) (fun z => absurd z.1 (by decide))
theorem fH_k {fr : Int} {B B' : zB} (h : fH fr B B') (k : Nat) (hk : k ≤ 29) : B' 14 0 k = B 14 0 k := by
  funext x; exact h 14 0 k x (fun z => by have := z.2.2.1; omega)
theorem EV_f {K : zK} {Km : Nat} {N lo pl fr : Int} {B B' Bm Bm' : zB} (h : EV K Km N B Bm) (hB : fB lo pl B B') (hm : fH fr Bm Bm') : EV K Km N B' Bm' := EV_B h (fB_10 hB) (fun k hk => fH_k hm k (by first | decide | omega))
theorem PS_f {N j lo pl fr : Int} {F : zF} {B B' : zB} {Fm : zF} {Bm Bm' : zB} (h : PS N j F B Fm Bm) (hB : fB lo pl B B') (hm : fH fr Bm Bm') : PS N j F B' Fm Bm' := PS_B h (fB_10 hB) (fun k hk => fH_k hm k (by first | decide | omega))
end
end
section
section
/-! ===== lengths, on both sides ===== -/
/-- nothing of the fault changes, and the frames stand -/
def OKL (N j : Int) (F : zF) (B : zB) (Fm : zF) (Bm : zB) (fr : Int) (F' : zF) (B' : zB) (Fm' : zF) (Bm' : zB) : Prop := ∃ j', j ≤ j' ∧ PS N j' F' B' Fm' Bm' ∧ Bm' 14 0 32 fr = Fm' 14 0 20 ∧ Bm' 14 0 33 fr = Fm' 14 0 21 ∧ F' 3 0 14 = F 3 0 14 ∧ F' 3 0 15 = F 3 0 15 ∧ F' 3 0 18 = F 3 0 18
theorem PS_len {N j n p v : Int} {F : zF} {B : zB} {Fm : zF} {Bm : zB} (h : PS N j F B Fm Bm) (hv : v = lenV n p) (hn : pw2 n) (hp : 0 ≤ p ∧ p ≤ 2) : PS N j (zup3 F 3 0 20 v) B (zup3 (zup3 Fm 14 0 20 n) 14 0 21 p) Bm := by
  obtain ⟨e11, hc, ht, hf, hw, hd', hl, hq⟩ := h
  unfold PS CUR at *
  simp only [zup3_v]
  simp
  exact ⟨e11, hc, ht, hf, hw, hd', Or.inr ⟨hv, hn, hp⟩, hq⟩
def fL (fr : Int) (B B' : zB) : Prop := ∀ c i k x, ¬ (c = 14 ∧ i = 0 ∧ (k = 32 ∨ k = 33) ∧ x = fr) → B' c i k x = B c i k x
theorem fL_H {fr : Int} {B B' : zB} (h : fL fr B B') : fH fr B B' := fun c i k x a => h c i k x (fun z => a ⟨z.1, z.2.1, by have := z.2.2.1; omega, by have := z.2.2.1; omega, by have := z.2.2.2; omega⟩)
theorem fL_34 {fr : Int} {B B' : zB} (h : fL fr B B') (k : Nat) (hk : k ≠ 32) (hk' : k ≠ 33) : B' 14 0 k = B 14 0 k := by
  funext x; exact h 14 0 k x (fun z => by have := z.2.2.1; omega)
theorem fL_l {fr : Int} {Bm : zB} {a b : Int} : fL fr Bm (zup4 (zup4 Bm 14 0 32 fr a) 14 0 33 fr b) := fun c i k x n => by
  rw [zup4_v, if_neg (fun z => n ⟨z.1, z.2.1, Or.inr z.2.2.1, z.2.2.2⟩), zup4_v, if_neg (fun z => n ⟨z.1, z.2.1, Or.inl z.2.2.1, z.2.2.2⟩)]
theorem fH_l {fr : Int} {Bm : zB} {a b : Int} : fH fr Bm (zup4 (zup4 Bm 14 0 32 fr a) 14 0 33 fr b) := fH_u (fH_u fH_r (by decide) (by decide) (Int.le_refl _)) (by decide) (by decide) (Int.le_refl _)
theorem L_len84 {Km : Nat} {fr : Int} {Fm : zF} {Bm : zB} (hf : 0 ≤ fr ∧ fr ≤ 3000) : f_M_length_84 Km fr Fm Bm = some (0, Fm, zup4 (zup4 Bm 14 0 32 fr (Fm 14 0 20)) 14 0 33 fr (Fm 14 0 21)) := by
  unfold f_M_length_84
  rw [if_pos (by first | decide | omega)]
theorem L_lengthB {Km : Nat} {fr : Int} {Fm : zF} {Bm : zB} (hf : 0 ≤ fr ∧ fr ≤ 3000) (h : bad Fm) : f_M_length Km fr Fm Bm = some (0, Fm, zup4 (zup4 Bm 14 0 32 fr (Fm 14 0 20)) 14 0 33 fr (Fm 14 0 21)) := by
  unfold f_M_length
  rw [L_goodB h]
  simp only [zb_s]
  rw [if_pos (by decide), if_pos (by decide), L_len84 hf]
theorem L_length0 {Km : Nat} {fr j : Int} {Fm : zF} {Bm : zB} (hf : 0 ≤ fr ∧ fr ≤ 3000) (h : Fm 14 0 17 = 0) (hm : MX Fm Bm j) (hs : sgm Bm j 58 = 0) : f_M_length Km fr Fm Bm = some (0, Fm, zup4 (zup4 Bm 14 0 32 fr (Fm 14 0 20)) 14 0 33 fr (Fm 14 0 21)) := by
  unfold f_M_length
  rw [L_good h]
  simp only [zb_s]
  rw [if_pos (by decide), if_neg (by decide), L_isSign hm (by decide)]
  simp only [zb_s]
  rw [hs, if_pos (by decide), if_pos rfl, L_len84 hf]
theorem P_points {K : zK} {Km : Nat} {N n v fr : Int} (hf : 0 ≤ fr ∧ fr ≤ 3000) (hn : pw2 n) (hv : v = zdv 128 n) : ∀ {q : Nat} {m m' : Nat} {p j : Int} {F : zF} {B : zB} {Fm : zF} {Bm : zB}, p = 2 - q → 0 ≤ p → q < m → q < m' → EV K Km N B Bm → PS N j F B Fm Bm → zP (f_Parser_takeLength_37 K m p p v 0 F B) (f_M_length_37 Km m' p n fr Fm Bm) (fun r F' B' _ Fm' Bm' => r = 1 ∧ B' = B ∧ fF F F' ∧ fG Fm Fm' ∧ fL fr Bm Bm' ∧ OKL N j F B Fm Bm fr F' B' Fm' Bm') := by
  intro q
  have l4 : ztl 4 = 3 := by decide
  -- the end, on both sides
  have fin : ∀ {p j : Int} {F : zF} {B : zB} {Fm : zF} {Bm : zB}, 0 ≤ p → p ≤ 2 → EV K Km N B Bm → PS N j F B Fm Bm → zP (f_Parser_takeLength_70 K p v 0 F B) (f_M_length_74 Km p n fr Fm Bm) (fun r F' B' _ Fm' Bm' => r = 1 ∧ B' = B ∧ fF F F' ∧ fG Fm Fm' ∧ fL fr Bm Bm' ∧ OKL N j F B Fm Bm fr F' B' Fm' Bm') := by
    intro p j F B Fm Bm p0 p2 hE hS
    unfold f_Parser_takeLength_70 f_M_length_74
    rw [if_pos (by first | decide | omega), if_pos ⟨(by first | decide | omega), hE.2.2.2.1⟩, L_len84 hf]
    refine zP_s ⟨rfl, rfl, fF_u fF_r (by decide), fG_u (fG_u fG_r (by decide) (by decide)) (by decide) (by decide), fL_l, j, Int.le_refl _, ?_, ?_, ?_, ?_, ?_, ?_⟩
    · exact PS_f (lo := 0) (pl := 0) (PS_len hS (by rw [hv]; rfl) hn ⟨p0, p2⟩) fB_r fH_l
    · simp [zup4_v]
    · simp [zup4_v]
    · simp [zup3_v]
    · simp [zup3_v]
    · simp [zup3_v]
  induction q with
  | zero =>
    intro m m' p j F B Fm Bm hp p0 hm hm' hE hS
    obtain ⟨m, rfl⟩ : ∃ x, m = x + 1 := ⟨m - 1, (by first | decide | omega)⟩
    obtain ⟨m', rfl⟩ : ∃ x, m' = x + 1 := ⟨m' - 1, (by first | decide | omega)⟩
    have hg := hS.2.2.2.1
    unfold f_Parser_takeLength_37 f_M_length_37
    rw [if_pos (by first | decide | omega), if_pos (by first | decide | omega), L_good hg]
    simp only [zb_s]
    rw [if_pos (by decide), if_neg (by decide), if_pos (by first | decide | omega), if_pos (by first | decide | omega)]
    exact fin p0 (by first | decide | omega) hE hS
  | succ q ih =>
    intro m m' p j F B Fm Bm hp p0 hm hm' hE hS
    obtain ⟨m, rfl⟩ : ∃ x, m = x + 1 := ⟨m - 1, (by first | decide | omega)⟩
    obtain ⟨m', rfl⟩ : ∃ x, m' = x + 1 := ⟨m' - 1, (by first | decide | omega)⟩
    have hg := hS.2.2.2.1
    have hX := PS_CX hE hS
    have hM := PS_MX hE hS
    have e11 := hS.1
    have k3 := hE.2.2.2.1
    have k10 := hE.2.2.2.2.1
    unfold f_Parser_takeLength_37 f_M_length_37
    rw [if_pos (by first | decide | omega), if_neg (by first | decide | omega), if_pos ⟨(by first | decide | omega), k3⟩, e11, if_pos ⟨(by first | decide | omega), k10⟩, C_isSign hX (by decide), L_good hg, PS_sg hE hS]
    simp only [zb_s]
    rw [if_pos (show r32 1 by decide), if_neg (show ¬ (1 : Int) = 0 by decide), if_pos (show r32 p by omega), if_neg (show ¬ 2 ≤ p by omega), L_isSign hM (by decide)]
    simp only [zb_s]
    have s := sgm_r Bm j 46
    rw [if_pos (show r32 (sgm Bm j 46) by omega), if_pos (show r32 (sgm Bm j 46) by omega)]
    by_cases z : sgm Bm j 46 = 0
    · rw [if_pos z, if_pos z]
      exact fin p0 (by first | decide | omega) hE hS
    · have hj : ¬ Bm 14 0 7 j = 0 := by
        have := mt sgm_0.mpr z
        omega
      rw [if_neg z, if_neg z, e11, if_pos ⟨(by first | decide | omega), k10⟩, C_adv hX, hM.1]
      simp only [zb_s]
      refine zP_m (ih (p := p + 1) (j := j + 1) (by first | decide | omega) (by first | decide | omega) (by first | decide | omega) (by first | decide | omega) hE (PS_step hE hS hj)) (fun r F' B' r' Fm' Bm' hh => ?_)
      obtain ⟨h1, h2, h3, h4, h5, j', h6, h7, h8, h9, h10, h11, h12⟩ := hh
      refine ⟨h1, h2, fF_t (fF_a fF_r) h3, fG_t (fG_u fG_r (by decide) (by decide)) h4, h5, j', (by first | decide | omega), h7, h8, h9, ?_, ?_, ?_⟩
      · rw [h10, advF_o (by decide)]
      · rw [h11, advF_o (by decide)]
      · rw [h12, advF_o (by decide)]
theorem P_takeLength {K : zK} {Km : Nat} {N j fr : Int} {F : zF} {B : zB} {Fm : zF} {Bm : zB} (hf : 0 ≤ fr ∧ fr ≤ 3000) (hE : EV K Km N B Bm) (hS : PS N j F B Fm Bm) (hs : ¬ sgm Bm j 58 = 0) : zP (f_Parser_takeLength K 0 F B) (f_M_length Km fr Fm Bm) (fun r F' B' _ Fm' Bm' => B' = B ∧ fF F F' ∧ fG Fm Fm' ∧ fL fr Bm Bm' ∧ (r = 1 ∧ OKL N j F B Fm Bm fr F' B' Fm' Bm' ∨ r = 0 ∧ ERR F' Fm')) := by
  have hg := hS.2.2.2.1
  have hX := PS_CX hE hS
  have hM := PS_MX hE hS
  have e11 := hS.1
  have k3 := hE.2.2.2.1
  have k10 := hE.2.2.2.2.1
  have k1 := hE.2.2.2.2.2.1
  have km := hE.2.2.2.2.2.2
  have s := sgm_r Bm j 58
  have hj : ¬ Bm 14 0 7 j = 0 := by
    have := mt sgm_0.mpr hs
    omega
  have hS1 := PS_step hE hS hj
  have hX1 := PS_CX hE hS1
  have hM1 := PS_MX hE hS1
  have hg1 := hS1.2.2.2.1
  have cn := C_takeNumber (lo := 1) (hi := 32) (pw := 1) hX1 (by decide) (by decide) (Or.inr ⟨rfl, by decide, by decide⟩)
  have mn := L_number (K := Km) (lo := 1) (hi := 32) (pw := 1) hg1 hM1 (by decide) (by decide) (Or.inr ⟨rfl, by decide, by decide⟩)
  have ek : (advF F B) 10 0 0 = Bm 14 0 7 (j + 1) := hS1.2.1.2.1
  have ev : (advF F B) 10 0 2 = B 10 0 7 (j + 1) := hS1.2.1.2.2.2.1
  have tk := hE.1.2.2 (j + 1) hS1.2.1.1.1 hS1.2.1.1.2
  have e3 : Bm 14 0 7 (j + 1) = 3 → (advF F B) 10 0 2 = Bm 14 0 9 (j + 1) := fun z => by rw [ev]; exact (tk.2.2.2.2.2.1 z).1
  unfold f_Parser_takeLength f_M_length
  rw [if_pos ⟨(by first | decide | omega), k3⟩, e11, if_pos ⟨(by first | decide | omega), k10⟩, C_adv hX, L_good hg]
  simp only [zb_s]
  rw [if_pos (show r32 1 by decide), if_neg (show ¬ (1 : Int) = 0 by decide), L_isSign hM (by decide)]
  simp only [zb_s]
  rw [if_pos (show r32 (sgm Bm j 58) by omega), if_neg hs, hM.1]
  by_cases k : Bm 14 0 7 (j + 1) = 3
  · by_cases o : nOK (Bm 14 0 9 (j + 1)) 1 32 1
    · rw [cn.1 (by rw [ek]; exact k) (by rw [e3 k]; exact o), mn.1 k o, e3 k]
      simp only [zb_s]
      have o2 := o
      obtain ⟨o3, o4, o5⟩ := o2
      have hj1 : ¬ Bm 14 0 7 (j + 1) = 0 := by omega
      have hS2 := PS_step hE (PS_u (k := 19) (v := Bm 14 0 9 (j + 1)) hS1 (by decide)) hj1
      have e19 : (advF (zup3 (advF F B) 3 0 19 (Bm 14 0 9 (j + 1))) B) 3 0 19 = Bm 14 0 9 (j + 1) := by rw [advF_o (by decide)]; simp [zup3_v]
      have zm : zmax (Bm 14 0 9 (j + 1)) 1 = Bm 14 0 9 (j + 1) := by unfold zmax; split <;> omega
      rw [if_pos (show r32 1 by decide), if_neg (show ¬ (1 : Int) = 0 by decide), e19, if_pos (by first | decide | omega), zm, if_pos (iI_n0 (by first | decide | omega) (by first | decide | omega))]
      refine zP_m (P_points (K := K) (Km := Km) (N := N) (n := Bm 14 0 9 (j + 1)) (v := zdv 128 (Bm 14 0 9 (j + 1))) hf (o5.resolve_left (by decide)) rfl (q := 2) (p := 0) (j := j + 1 + 1) (by first | decide | omega) (by first | decide | omega) (by first | decide | omega) (by first | decide | omega) hE hS2) (fun r F' B' r' Fm' Bm' hh => ?_)
      obtain ⟨h1, h2, h3, h4, h5, j', h6, h7, h8, h9, h10, h11, h12⟩ := hh
      refine ⟨h2, fF_t (fF_a (fF_u (fF_a fF_r) (by decide))) h3, fG_t (fG_u (fG_u fG_r (by decide) (by decide)) (by decide) (by decide)) h4, h5, Or.inl ⟨h1, j', (by first | decide | omega), h7, h8, h9, ?_, ?_, ?_⟩⟩
      · rw [h10, advF_o (by decide)]; simp [zup3_v]; rw [advF_o (by decide)]
      · rw [h11, advF_o (by decide)]; simp [zup3_v]; rw [advF_o (by decide)]
      · rw [h12, advF_o (by decide)]; simp [zup3_v]; rw [advF_o (by decide)]
    · rw [cn.2.1 (by rw [ek]; exact k) (by rw [e3 k]; exact o), mn.2.1 k o]
      simp only [zb_s]
      have hr := PS_err (s := 5) (s' := 5) hE hS1 (by rw [if_neg (by first | decide | omega)]) (by decide)
      obtain ⟨m, rfl⟩ : ∃ x, Km = x + 1 := ⟨Km - 1, (by first | decide | omega)⟩
      rw [if_pos (show r32 0 by decide), if_pos trivial]
      unfold f_M_length_37 f_M_length_74
      rw [L_goodB hr.2]
      simp only [zb_s]
      rw [if_pos (by decide), if_pos (by decide), L_len84 hf]
      refine zP_s ⟨rfl, fF_e (fF_a fF_r), fG_u (fG_u (fG_e (fG_u fG_r (by decide) (by decide))) (by decide) (by decide)) (by decide) (by decide), fL_l, Or.inr ⟨rfl, ?_⟩⟩
      unfold ERR bad at *
      simp only [zup3_v]
      simpa using hr
  · rw [cn.2.2 (by rw [ek]; exact k), mn.2.2 k]
    simp only [zb_s]
    have hr := PS_err2 hE hS1
    obtain ⟨m, rfl⟩ : ∃ x, Km = x + 1 := ⟨Km - 1, (by first | decide | omega)⟩
    rw [if_pos (show r32 0 by decide), if_pos trivial]
    unfold f_M_length_37 f_M_length_74
    rw [L_goodB hr.2]
    simp only [zb_s]
    rw [if_pos (by decide), if_pos (by decide), L_len84 hf]
    refine zP_s ⟨rfl, fF_e (fF_a fF_r), fG_u (fG_u (fG_e (fG_u fG_r (by decide) (by decide))) (by decide) (by decide)) (by decide) (by decide), fL_l, Or.inr ⟨rfl, ?_⟩⟩
    unfold ERR bad at *
    simp only [zup3_v]
    simpa using hr
end
end
section
section
/-! ===== chords and marks, on both sides ===== -/
def fX (ks : List Nat) (x pl : Int) (B B' : zB) : Prop := ∀ c i k y, ¬ (c = 3 ∧ i = 0 ∧ k ∈ ks ∧ y = x) → ¬ (c = 3 ∧ i = 0 ∧ 8 ≤ k ∧ k ≤ 10 ∧ pl ≤ y) → B' c i k y = B c i k y
theorem fX_r {ks : List Nat} {x pl : Int} {B : zB} : fX ks x pl B B := fun _ _ _ _ _ _ => rfl
theorem fX_t {ks : List Nat} {x pl : Int} {B B' B'' : zB} (h : fX ks x pl B B') (h' : fX ks x pl B' B'') : fX ks x pl B B'' := fun c i k y a b => by rw [h' c i k y a b, h c i k y a b]
theorem fX_u {ks : List Nat} {x pl : Int} {B B' : zB} {k : Nat} {y v : Int} (h : fX ks x pl B B') (hk : k ∈ ks ∧ y = x ∨ 8 ≤ k ∧ k ≤ 10 ∧ pl ≤ y) : fX ks x pl B (zup4 B' 3 0 k y v) := fun c i a b p q => by
  rw [zup4_v, if_neg]
  · exact h c i a b p q
  · rintro ⟨rfl, rfl, rfl, rfl⟩
    rcases hk with z | z
    · exact p ⟨rfl, rfl, z⟩
    · exact q ⟨rfl, rfl, z⟩
theorem fX_m {ks ls : List Nat} {x pl pm : Int} {B B' : zB} (h : fX ks x pl B B') (hk : ∀ k ∈ ks, k ∈ ls) (hp : pm ≤ pl) : fX ls x pm B B' := fun c i k y a b => h c i k y (fun z => a ⟨z.1, z.2.1, hk k z.2.2.1, z.2.2.2⟩) (fun z => b ⟨z.1, z.2.1, z.2.2.1, z.2.2.2.1, (by first | decide | omega)⟩)
theorem fX_B {ks : List Nat} {x pl lo : Int} {B B' : zB} (h : fX ks x pl B B') (hk : ∀ k ∈ ks, k ≤ 7) (hl : lo ≤ x) : fB lo pl B B' := fun c i k y a b => h c i k y (fun z => a ⟨z.1, z.2.1, hk k z.2.2.1, by rw [z.2.2.2]; exact hl⟩) b
theorem fX_3 {ks : List Nat} {x pl : Int} {B B' : zB} (h : fX ks x pl B B') {k : Nat} (hk : k ∉ ks) (h8 : k ≤ 7) (y : Int) : B' 3 0 k y = B 3 0 k y := h 3 0 k y (fun z => hk z.2.2.1) (fun z => by have := z.2.2.1; omega)
/-- the pitches from p on are the reference's tokens from i on, m of them -/
def pitR (B Bm : zB) (p i m : Int) : Prop := ∀ k, 0 ≤ k → k < m → B 3 0 8 (p + k) = Bm 14 0 9 (i + k) ∧ B 3 0 9 (p + k) = Bm 14 0 10 (i + k) ∧ B 3 0 10 (p + k) = Bm 14 0 8 (i + k) ∧ Bm 14 0 7 (i + k) = 2
theorem PS_pit {K : zK} {Km : Nat} {N j x : Int} {F : zF} {B : zB} {Fm : zF} {Bm : zB} (hE : EV K Km N B Bm) (hS : PS N j F B Fm Bm) (h2 : Bm 14 0 7 j = 2) : (0 ≤ F 3 0 15 ∧ F 3 0 15 < 1500) ∧ PS N (j + 1) (advF (zup3 F 3 0 15 (F 3 0 15 + 1)) B) (pitB F B x) (zup3 Fm 14 0 16 (j + 1)) Bm ∧ fX [6] x (F 3 0 15) B (pitB F B x) ∧ (pitB F B x) 3 0 6 x = B 3 0 6 x + 1 ∧ pitR (pitB F B x) Bm (F 3 0 15) j 1 := by
  have hc := CUR_adv hE.1 (j := j) (F := zup3 F 3 0 15 (F 3 0 15 + 1)) (by
    have := hS.2.1
    unfold CUR at *
    simp only [zup3_v]
    simpa using this) (by first | decide | omega)
  have hX : fX [6] x (F 3 0 15) B (pitB F B x) := fX_u (fX_u (fX_u (fX_u fX_r (Or.inr ⟨by decide, by decide, Int.le_refl _⟩)) (Or.inr ⟨by decide, by decide, Int.le_refl _⟩)) (Or.inr ⟨by decide, by decide, Int.le_refl _⟩)) (Or.inl ⟨by decide, rfl⟩)
  obtain ⟨⟨n0, n1, hT⟩, _⟩ := hE
  obtain ⟨e11, ⟨⟨j0, j1⟩, hk, hp, hv, hs, hx⟩, ht, hf, hw, hd, hl, hq⟩ := hS
  obtain ⟨a1, a2, a3, a4, a5, a6, a7, a8, a9, a10, a11⟩ := hT j j0 j1
  have jN : j < N := by have : ¬ j = N := fun z => by have := a4.mpr z; omega
                        omega
  have i := a11 jN
  rw [if_pos h2] at i
  have i2 := (hT (j + 1) (by first | decide | omega) (by first | decide | omega)).2.2.2.2.2.2.2.2.2.1
  obtain ⟨s1, s2⟩ := hs h2
  refine ⟨(by first | decide | omega), PS_B ⟨?_, hc, ?_, ?_, ?_, ?_, ?_, ?_⟩ (fB_10 (fX_B (lo := x) hX (by decide) (Int.le_refl _))) (fun _ _ => rfl), hX, ?_, ?_⟩
  · rw [advF_o (by decide)]; simp [zup3_v]; exact e11
  · simp [zup3_v]
  · simp [zup3_v]; exact hf
  · rw [advF_o (by decide)]; simp [zup3_v]; exact hw
  · rw [advF_o (by decide)]; simp [zup3_v]; exact hd
  · rw [advF_o (by decide), advF_o (by decide)]; simp [zup3_v]; exact hl
  · rw [advF_o (by decide)]; simp [zup3_v]; omega
  · unfold pitB; simp [zup4_v]
  · intro k k0 k1
    have : k = 0 := by omega
    subst this
    unfold pitB
    simp [zup4_v]
    exact ⟨s1, s2, hp, h2⟩
theorem pitR_1 {B B' Bm : zB} {p i m x : Int} {ks : List Nat} (h : pitR B Bm p i 1) (hX : fX ks x (p + 1) B B') (hks : ∀ k ∈ ks, k ≤ 7) (h' : pitR B' Bm (p + 1) (i + 1) m) : pitR B' Bm p i (m + 1) := by
  intro k k0 k1
  by_cases e : k = 0
  · subst e
    have f : ∀ r, 8 ≤ r → B' 3 0 r (p + 0) = B 3 0 r (p + 0) := fun r hr => hX 3 0 r (p + 0) (fun z => by have := hks r z.2.2.1; omega) (fun z => by have := z.2.2.2.2; omega)
    rw [f 8 (by decide), f 9 (by decide), f 10 (by decide)]
    exact h 0 (by first | decide | omega) (by first | decide | omega)
  · have t := h' (k - 1) (by first | decide | omega) (by first | decide | omega)
    rw [show p + 1 + (k - 1) = p + k by omega, show i + 1 + (k - 1) = i + k by omega] at t
    exact t
theorem P_chord {K : zK} {Km : Nat} {N x : Int} (hx : 0 ≤ x ∧ x < 3000) : ∀ {q : Nat} {m m' : Nat} {l j : Int} {F : zF} {B : zB} {Fm : zF} {Bm : zB}, l = 6 - q → 0 ≤ l → q < m → q + 1 < m' → EV K Km N B Bm → PS N j F B Fm Bm → B 3 0 6 x = l → zP (f_Parser_takeChord_9 K m l 0 x F B) (f_M_chord_12 Km m' l Fm Bm) (fun r F' B' _ Fm' Bm' => Bm' = Bm ∧ fF F F' ∧ fG Fm Fm' ∧ fX [6] x (F 3 0 15) B B' ∧ (r = 1 ∧ (∃ n, l + n ≤ 6 ∧ 2 ≤ l + n ∧ 0 ≤ n ∧ PS N (j + n + 1) F' B' Fm' Bm' ∧ B' 3 0 6 x = l + n ∧ F' 3 0 15 = F 3 0 15 + n ∧ pitR B' Bm (F 3 0 15) j n ∧ ¬ Bm 14 0 7 (j + n) = 2 ∧ F' 3 0 14 = F 3 0 14 ∧ F' 3 0 18 = F 3 0 18 ∧ F' 3 0 20 = F 3 0 20) ∨ r = 0 ∧ ERR F' Fm')) := by
  intro q
  -- behind the pitches
  have fin : ∀ {l j : Int} {F : zF} {B : zB} {Fm : zF} {Bm : zB}, 0 ≤ l → l ≤ 6 → EV K Km N B Bm → PS N j F B Fm Bm → B 3 0 6 x = l → ¬ Bm 14 0 7 j = 2 → zP (f_Parser_takeChord_37 K 0 x F B) (f_M_chord_61 Km l Fm Bm) (fun r F' B' _ Fm' Bm' => Bm' = Bm ∧ fF F F' ∧ fG Fm Fm' ∧ fX [6] x (F 3 0 15) B B' ∧ (r = 1 ∧ (∃ n, l + n ≤ 6 ∧ 2 ≤ l + n ∧ 0 ≤ n ∧ PS N (j + n + 1) F' B' Fm' Bm' ∧ B' 3 0 6 x = l + n ∧ F' 3 0 15 = F 3 0 15 + n ∧ pitR B' Bm (F 3 0 15) j n ∧ ¬ Bm 14 0 7 (j + n) = 2 ∧ F' 3 0 14 = F 3 0 14 ∧ F' 3 0 18 = F 3 0 18 ∧ F' 3 0 20 = F 3 0 20) ∨ r = 0 ∧ ERR F' Fm')) := by
    intro l j F B Fm Bm l0 l6 hE hS h6 h2
    have hg := hS.2.2.2.1
    have hX := PS_CX hE hS
    have hM := PS_MX hE hS
    have k3 := hE.2.2.2.1
    unfold f_Parser_takeChord_37 f_Parser_takeChord_61 f_M_chord_61 f_M_chord_77
    rw [if_pos ⟨(by first | decide | omega), k3⟩, if_pos hx, h6, if_pos (by first | decide | omega), L_good hg]
    simp only [zb_s]
    rw [if_pos (show r32 1 by decide), if_neg (show ¬ (1 : Int) = 0 by decide), if_pos (show r32 l by omega)]
    by_cases a : 2 ≤ l
    · rw [if_pos a, if_pos a, C_takeSign hX (by decide), L_need hg hM (by decide), PS_sg hE hS]
      by_cases z : sgm Bm j 62 = 0
      · rw [if_pos z, if_pos z]
        simp only [zb_s]
        rw [if_pos (by decide)]
        exact zP_s ⟨rfl, fF_e fF_r, fG_e fG_r, fX_r, Or.inr ⟨rfl, PS_err2 hE hS⟩⟩
      · rw [if_neg z, if_neg z]
        simp only [zb_s]
        rw [if_pos (by decide)]
        have hj : ¬ Bm 14 0 7 j = 0 := by
          have := mt sgm_0.mpr z
          omega
        refine zP_s ⟨rfl, fF_a fF_r, fG_u fG_r (by decide) (by decide), fX_r, Or.inl ⟨rfl, 0, (by first | decide | omega), (by first | decide | omega), (by first | decide | omega), ?_, (by first | decide | omega), ?_, ?_, ?_, ?_, ?_, ?_⟩⟩
        · rw [show j + 0 + 1 = j + 1 by omega]; exact PS_step hE hS hj
        · rw [advF_o (by decide)]; omega
        · intro k k0 k1; omega
        · rw [show j + 0 = j by omega]; exact h2
        · rw [advF_o (by decide)]
        · rw [advF_o (by decide)]
        · rw [advF_o (by decide)]
    · have er := PS_err2 hE hS
      rw [if_neg a, if_neg a, C_refuse hX, L_wrong hg hM]
      simp only [zb_s]
      rw [L_needB er.2]
      simp only [zb_s]
      rw [if_pos (by decide)]
      exact zP_s ⟨rfl, fF_e fF_r, fG_e fG_r, fX_r, Or.inr ⟨rfl, er⟩⟩
  induction q with
  | zero =>
    intro m m' l j F B Fm Bm hl l0 hm hm' hE hS h6
    obtain ⟨m, rfl⟩ : ∃ y, m = y + 1 := ⟨m - 1, (by first | decide | omega)⟩
    obtain ⟨m', rfl⟩ : ∃ y, m' = y + 1 + 1 := ⟨m' - 2, (by first | decide | omega)⟩
    have hg := hS.2.2.2.1
    have hX := PS_CX hE hS
    have hM := PS_MX hE hS
    have k3 := hE.2.2.2.1
    have hkk := hM.2.2.1
    have h16 := hM.1
    have h0 := hM.2.1
    unfold f_Parser_takeChord_9 f_M_chord_12
    rw [if_pos (by first | decide | omega), if_pos (by first | decide | omega), L_good hg]
    simp only [zb_s]
    rw [if_pos (show r32 1 by decide), if_neg (show ¬ (1 : Int) = 0 by decide), h16, if_pos (by first | decide | omega), if_pos (by first | decide | omega)]
    by_cases k2 : Bm 14 0 7 j = 2
    · have er := PS_err2 hE hS
      rw [if_pos k2, if_pos (by first | decide | omega), if_pos (by first | decide | omega), L_wrong hg hM]
      simp only [zb_s]
      unfold f_M_chord_12
      rw [L_goodB er.2]
      simp only [zb_s]
      rw [if_pos (by decide), if_pos trivial]
      unfold f_M_chord_61 f_M_chord_77
      rw [L_goodB er.2]
      simp only [zb_s]
      rw [if_pos (by decide), if_pos trivial, L_needB er.2]
      unfold f_Parser_takeChord_37 f_Parser_takeChord_61
      have z : sgm Bm j 62 = 0 := sgm_0.mpr (fun z => by have := z.1; omega)
      rw [if_pos ⟨(by first | decide | omega), k3⟩, if_pos hx, h6, if_pos (by first | decide | omega), if_pos (by first | decide | omega), C_takeSign hX (by decide), PS_sg hE hS, if_pos z]
      simp only [zb_s]
      rw [if_pos (by decide)]
      exact zP_s ⟨rfl, fF_e fF_r, fG_e fG_r, fX_r, Or.inr ⟨rfl, er⟩⟩
    · rw [if_neg k2]
      exact fin l0 (by first | decide | omega) hE hS h6 k2
  | succ q ih =>
    intro m m' l j F B Fm Bm hl l0 hm hm' hE hS h6
    obtain ⟨m, rfl⟩ : ∃ y, m = y + 1 := ⟨m - 1, (by first | decide | omega)⟩
    obtain ⟨m', rfl⟩ : ∃ y, m' = y + 1 := ⟨m' - 1, (by first | decide | omega)⟩
    have hg := hS.2.2.2.1
    have hX := PS_CX hE hS
    have hM := PS_MX hE hS
    have k3 := hE.2.2.2.1
    have k10 := hE.2.2.2.2.1
    have hkk := hM.2.2.1
    have h16 := hM.1
    have h0 := hM.2.1
    have ek := hS.2.1.2.1
    unfold f_Parser_takeChord_9 f_M_chord_12
    rw [if_pos (by first | decide | omega), if_neg (by first | decide | omega), if_pos ⟨(by first | decide | omega), k3⟩, hS.1, if_pos ⟨(by first | decide | omega), k10⟩, if_pos (by first | decide | omega), ek, L_good hg]
    simp only [zb_s]
    rw [if_pos (show r32 1 by decide), if_neg (show ¬ (1 : Int) = 0 by decide), h16, if_pos (show 0 ≤ j ∧ j < 3001 by omega), if_pos (show r32 (Bm 14 0 7 j) by omega)]
    by_cases k2 : Bm 14 0 7 j = 2
    · obtain ⟨pp, hS1, hX1, h61, hR⟩ := PS_pit (x := x) hE hS k2
      rw [if_pos k2, if_pos k2, if_pos (by first | decide | omega), if_neg (by first | decide | omega), C_takePitch hX pp hx]
      simp only [zb_s]
      have hfB := fX_B (lo := x) hX1 (by decide) (Int.le_refl _)
      refine zP_m (ih (l := l + 1) (j := j + 1) (by first | decide | omega) (by first | decide | omega) (by first | decide | omega) (by first | decide | omega) (EV_f hE hfB (fH_r (fr := 0))) hS1 (by first | decide | omega)) (fun r F' B' r' Fm' Bm' hh => ?_)
      obtain ⟨g1, g2, g3, g4, g5⟩ := hh
      have e15 : (advF (zup3 F 3 0 15 (F 3 0 15 + 1)) B) 3 0 15 = F 3 0 15 + 1 := by rw [advF_o (by decide)]; simp [zup3_v]
      have e14 : (advF (zup3 F 3 0 15 (F 3 0 15 + 1)) B) 3 0 14 = F 3 0 14 := by rw [advF_o (by decide)]; simp [zup3_v]
      have e18 : (advF (zup3 F 3 0 15 (F 3 0 15 + 1)) B) 3 0 18 = F 3 0 18 := by rw [advF_o (by decide)]; simp [zup3_v]
      have e20 : (advF (zup3 F 3 0 15 (F 3 0 15 + 1)) B) 3 0 20 = F 3 0 20 := by rw [advF_o (by decide)]; simp [zup3_v]
      rw [e15] at g4 g5
      rw [e14, e18, e20] at g5
      refine ⟨g1, fF_t (fF_a (fF_u fF_r (by decide))) g2, fG_t (fG_u fG_r (by decide) (by decide)) g3, fX_t hX1 (fX_m g4 (fun _ z => z) (by first | decide | omega)), ?_⟩
      rcases g5 with ⟨rfl, n, n1, n2, n3, n4, n5, n6, n7, n8, n9⟩ | g5
      · refine Or.inl ⟨rfl, n + 1, (by first | decide | omega), (by first | decide | omega), (by first | decide | omega), ?_, (by first | decide | omega), (by first | decide | omega), pitR_1 hR g4 (by decide) n7, ?_, n9⟩
        · rw [show j + (n + 1) + 1 = j + 1 + n + 1 by omega]; exact n4
        · rw [show j + (n + 1) = j + 1 + n by omega]; exact n8
      · exact Or.inr g5
    · rw [if_neg k2, if_neg k2]
      exact fin l0 (by first | decide | omega) hE hS h6 k2
end
end
section
section
/-! ===== marks, on both sides ===== -/
def mkv (b : Int) : Int := if b = 126 then 1 else if b = 40 then 2 else if b = 41 then 4 else if b = 39 then 8 else if b = 94 then 16 else if b = 45 then 32 else if b = 37 then 64 else 0
theorem mkm_v {B : zB} {j : Int} : mkm B j = if B 14 0 7 j = 5 then mkv (B 14 0 9 j) else 0 := rfl
theorem mkv_ix : ∀ c : Fin 256, (idxS 0 (zi2b (c.val : Int)) 102 0 = -1 ∧ mkv (c.val : Int) = 0) ∨ (0 ≤ idxS 0 (zi2b (c.val : Int)) 102 0 ∧ idxS 0 (zi2b (c.val : Int)) 102 0 ≤ 6 ∧ mkv (c.val : Int) = 2 ^ (idxS 0 (zi2b (c.val : Int)) 102 0).toNat ∧ 1 ≤ mkv (c.val : Int) ∧ mkv (c.val : Int) ≤ 64) := by decide +kernel
theorem mkv_i {b : Int} (h0 : 0 ≤ b) (h1 : b < 256) : (idxS 0 (zi2b b) 102 0 = -1 ∧ mkv b = 0) ∨ (0 ≤ idxS 0 (zi2b b) 102 0 ∧ idxS 0 (zi2b b) 102 0 ≤ 6 ∧ mkv b = 2 ^ (idxS 0 (zi2b b) 102 0).toNat ∧ 1 ≤ mkv b ∧ mkv b ≤ 64) := by
  have i := mkv_ix ⟨b.toNat, (by first | decide | omega)⟩
  rw [show (((⟨b.toNat, (by first | decide | omega)⟩ : Fin 256).val : Nat) : Int) = b by show ((b.toNat : Nat) : Int) = b; omega] at i
  exact i
def mcnt (m : Int) : Int := m % 2 + m / 2 % 2 + m / 4 % 2 + m / 8 % 2 + m / 16 % 2 + m / 32 % 2 + m / 64 % 2
theorem mk_bits : ∀ m : Fin 128, ∀ i : Fin 7, (zand (zshr (m.val : Int) (i.val : Int)) 1 = 0 ↔ zand (m.val : Int) (2 ^ i.val) ≤ 0) ∧ (zand (zshr (m.val : Int) (i.val : Int)) 1 = 0 → zor (m.val : Int) (zshl 1 (i.val : Int)) = zor (m.val : Int) (2 ^ i.val) ∧ 0 ≤ zor (m.val : Int) (2 ^ i.val) ∧ zor (m.val : Int) (2 ^ i.val) < 128 ∧ mcnt (zor (m.val : Int) (2 ^ i.val)) = mcnt (m.val : Int) + 1) ∧ (mcnt (m.val : Int) = 7 → ¬ zand (m.val : Int) (2 ^ i.val) ≤ 0) := by decide +kernel
theorem mk_b {m i : Int} (m0 : 0 ≤ m) (m1 : m < 128) (i0 : 0 ≤ i) (i1 : i ≤ 6) : (zand (zshr m i) 1 = 0 ↔ zand m (2 ^ i.toNat) ≤ 0) ∧ (zand (zshr m i) 1 = 0 → zor m (zshl 1 i) = zor m (2 ^ i.toNat) ∧ 0 ≤ zor m (2 ^ i.toNat) ∧ zor m (2 ^ i.toNat) < 128 ∧ mcnt (zor m (2 ^ i.toNat)) = mcnt m + 1) ∧ (mcnt m = 7 → ¬ zand m (2 ^ i.toNat) ≤ 0) := by
  have h := mk_bits ⟨m.toNat, (by first | decide | omega)⟩ ⟨i.toNat, (by first | decide | omega)⟩
  rw [show (((⟨m.toNat, (by first | decide | omega)⟩ : Fin 128).val : Nat) : Int) = m by show ((m.toNat : Nat) : Int) = m; omega, show (((⟨i.toNat, (by first | decide | omega)⟩ : Fin 7).val : Nat) : Int) = i by show ((i.toNat : Nat) : Int) = i; omega] at h
  exact h
/-- the reference has told a mark that comes twice; the class stands before it and will refuse it -/
def DEL (N : Int) (F : zF) (B : zB) (Fm : zF) (Bm : zB) : Prop := F 3 0 11 = 0 ∧ F 3 0 21 = 0 ∧ (∃ j, CUR F B Bm N j) ∧ F 10 0 0 = 5 ∧ ¬ mkv (F 10 0 2) = 0 ∧ Fm 14 0 17 = 2 ∧ Fm 14 0 18 = F 10 0 1
theorem P_marks {K : zK} {Km : Nat} {N x fr : Int} (hx : 0 ≤ x ∧ x < 3000) (hf : 0 ≤ fr ∧ fr ≤ 3000) : ∀ {q : Nat} {m m' : Nat} {l j : Int} {F : zF} {B : zB} {Fm : zF} {Bm : zB}, l = 7 - q → 0 ≤ l → q < m → q + 1 < m' → EV K Km N B Bm → PS N j F B Fm Bm → B 3 0 7 x = Bm 14 0 34 fr → 0 ≤ B 3 0 7 x ∧ B 3 0 7 x < 128 → mcnt (B 3 0 7 x) = l → zP (f_Parser_takeMarks_2 K m l 0 x F B) (f_M_marks_7 Km m' fr Fm Bm) (fun _ F' B' _ Fm' Bm' => fF F F' ∧ fG Fm Fm' ∧ fX [7] x (F 3 0 15) B B' ∧ fH fr Bm Bm' ∧ (∀ k, k ≤ 33 → Bm' 14 0 k = Bm 14 0 k) ∧ B' 3 0 7 x = Bm' 14 0 34 fr ∧ (0 ≤ B' 3 0 7 x ∧ B' 3 0 7 x < 128) ∧ F' 3 0 14 = F 3 0 14 ∧ F' 3 0 15 = F 3 0 15 ∧ F' 3 0 18 = F 3 0 18 ∧ ((∃ j', j ≤ j' ∧ PS N j' F' B' Fm' Bm') ∨ DEL N F' B' Fm' Bm')) := by
  intro q
  induction q with
  | zero =>
    intro m m' l j F B Fm Bm hl l0 hm hm' hE hS h7 hb hc
    obtain ⟨m, rfl⟩ : ∃ y, m = y + 1 := ⟨m - 1, (by first | decide | omega)⟩
    obtain ⟨m', rfl⟩ : ∃ y, m' = y + 1 + 1 := ⟨m' - 2, (by first | decide | omega)⟩
    have hg := hS.2.2.2.1
    have hX := PS_CX hE hS
    have hM := PS_MX hE hS
    have h16 := hM.1
    have h0 := hM.2.1
    unfold f_Parser_takeMarks_2 f_M_marks_7
    rw [C_slen (by decide) (by decide), L_good hg]
    simp only [zb_s]
    rw [show zsl 0 = 7 by decide, if_pos (show r32 l by omega), if_pos (show r32 7 by decide), if_pos (show 7 ≤ l by omega), if_pos (show r32 1 by decide), if_neg (show ¬ (1 : Int) = 0 by decide)]
    simp only [zb_s, L_markHere hM]
    unfold f_Parser_takeMarks_82
    have tk := hE.1.2.2 j hS.2.1.1.1 hS.2.1.1.2
    by_cases k5 : Bm 14 0 7 j = 5
    · have v5 := hM.2.2.2.1 (Or.inl k5)
      have t5 := tk.2.2.2.2.2.2.2.1 k5
      have eM : mkm Bm j = mkv (Bm 14 0 9 j) := by rw [mkm_v, if_pos k5]
      rcases mkv_i (b := Bm 14 0 9 j) (by first | decide | omega) (by first | decide | omega) with ⟨i1, i2⟩ | ⟨i1, i2, i3, pos⟩
      · rw [eM, i2, if_pos (by decide), if_pos (by decide)]
        unfold f_M_marks_68
        exact zP_s ⟨fF_r, fG_r, fX_r, fH_r, fun _ _ => rfl, h7, hb, rfl, rfl, rfl, Or.inl ⟨j, Int.le_refl _, hS⟩⟩
      · have b := mk_b (m := B 3 0 7 x) (i := idxS 0 (zi2b (Bm 14 0 9 j)) 102 0) hb.1 hb.2 i1 i2
        have hz := b.2.2 (by first | decide | omega)
        rw [eM, if_pos (by first | decide | omega), if_neg (by first | decide | omega), if_pos (by first | decide | omega)]
        rw [← h7, i3, if_pos (zand_r32 _ _), if_neg hz, L_wrong hg hM]
        simp only [zb_s]
        have er := PS_err2 hE hS
        unfold f_M_marks_7
        rw [L_goodB er.2]
        simp only [zb_s]
        rw [if_pos (by decide), if_pos trivial]
        unfold f_M_marks_68
        refine zP_s ⟨fF_r, fG_e fG_r, fX_r, fH_r, fun _ _ => rfl, h7, hb, rfl, rfl, rfl, Or.inr ⟨hS.1, hS.2.2.2.2.1, ⟨j, hS.2.1⟩, ?_, ?_, ?_, ?_⟩⟩
        · rw [hS.2.1.2.1]; exact k5
        · rw [hS.2.1.2.2.2.1, t5.1]; omega
        · unfold errM wr; rw [if_neg (by first | decide | omega)]; simp [zup3_v]
        · unfold errM; simp [zup3_v]; rw [h16]; exact hS.2.1.2.2.1.symm
    · have eM : mkm Bm j = 0 := by rw [mkm_v, if_neg k5]
      rw [eM, if_pos (by decide), if_pos (by decide)]
      unfold f_M_marks_68
      exact zP_s ⟨fF_r, fG_r, fX_r, fH_r, fun _ _ => rfl, h7, hb, rfl, rfl, rfl, Or.inl ⟨j, Int.le_refl _, hS⟩⟩
  | succ q ih =>
    intro m m' l j F B Fm Bm hl l0 hm hm' hE hS h7 hb hc
    obtain ⟨m, rfl⟩ : ∃ y, m = y + 1 := ⟨m - 1, (by first | decide | omega)⟩
    obtain ⟨m', rfl⟩ : ∃ y, m' = y + 1 + 1 := ⟨m' - 2, (by first | decide | omega)⟩
    have hg := hS.2.2.2.1
    have hX := PS_CX hE hS
    have hM := PS_MX hE hS
    have k3 := hE.2.2.2.1
    have k10 := hE.2.2.2.2.1
    have k1 := hE.2.2.2.2.2.1
    have h16 := hM.1
    have h0 := hM.2.1
    have hkk := hM.2.2.1
    have e11 := hS.1
    have ek := hS.2.1.2.1
    have ev := hS.2.1.2.2.2.1
    unfold f_Parser_takeMarks_2 f_M_marks_7
    rw [C_slen (by decide) (by decide), L_good hg]
    simp only [zb_s]
    rw [show zsl 0 = 7 by decide, if_pos (show r32 l by omega), if_pos (show r32 7 by decide), if_neg (show ¬ 7 ≤ l by omega), if_pos ⟨Int.le_refl _, k3⟩, e11, if_pos ⟨Int.le_refl _, k10⟩, if_pos (show r32 (F 10 0 0) by omega), if_pos (show r32 1 by decide), if_neg (show ¬ (1 : Int) = 0 by decide)]
    simp only [zb_s, L_markHere hM]
    have tk := hE.1.2.2 j hS.2.1.1.1 hS.2.1.1.2
    by_cases k5 : Bm 14 0 7 j = 5
    · have v5 := hM.2.2.2.1 (Or.inl k5)
      have t5 := tk.2.2.2.2.2.2.2.1 k5
      have ev5 : F 10 0 2 = Bm 14 0 9 j := by rw [ev]; exact t5.1
      have eM : mkm Bm j = mkv (Bm 14 0 9 j) := by rw [mkm_v, if_pos k5]
      rw [if_pos (show F 10 0 0 = 5 by omega), ev5, zi2c_b (by first | decide | omega) (by first | decide | omega), C_indexOf (by first | decide | omega) (by decide) (by decide) (by decide) (by decide) (by first | decide | omega) (by first | decide | omega)]
      simp only [zb_s]
      rcases mkv_i (b := Bm 14 0 9 j) (by first | decide | omega) (by first | decide | omega) with ⟨i1, i2⟩ | ⟨i1, i2, i3, pos⟩
      · rw [eM, i2, i1, if_pos (show r32 (-1) by decide), if_pos (show (-1 : Int) < 0 by decide), if_pos (show r32 0 by decide), if_pos (show (0 : Int) ≤ 0 by decide)]
        unfold f_Parser_takeMarks_56 f_M_marks_68
        exact zP_s ⟨fF_r, fG_r, fX_r, fH_r, fun _ _ => rfl, h7, hb, rfl, rfl, rfl, Or.inl ⟨j, Int.le_refl _, hS⟩⟩
      · have b := mk_b (m := B 3 0 7 x) (i := idxS 0 (zi2b (Bm 14 0 9 j)) 102 0) hb.1 hb.2 i1 i2
        rw [if_pos (show r32 (idxS 0 (zi2b (Bm 14 0 9 j)) 102 0) by omega), if_neg (show ¬ idxS 0 (zi2b (Bm 14 0 9 j)) 102 0 < 0 by omega), if_pos hx, if_pos (zand_r32 _ _), eM, if_pos (show r32 (mkv (Bm 14 0 9 j)) by omega), if_neg (show ¬ mkv (Bm 14 0 9 j) ≤ 0 by omega), if_pos (show 0 ≤ fr ∧ fr < 3001 by omega)]
        rw [← h7, i3, if_pos (zand_r32 _ _)]
        by_cases z : zand (zshr (B 3 0 7 x) (idxS 0 (zi2b (Bm 14 0 9 j)) 102 0)) 1 = 0
        · obtain ⟨c1, c2, c3, c4⟩ := b.2.1 z
          rw [if_pos z, if_pos (b.1.mp z), e11, if_pos ⟨Int.le_refl _, k10⟩, C_adv (CX_b hX), advF_b, c1, h16]
          simp only [zb_s]
          have hfX : fX [7] x (F 3 0 15) B (zup4 B 3 0 7 x (zor (B 3 0 7 x) (2 ^ (idxS 0 (zi2b (Bm 14 0 9 j)) 102 0).toNat))) := fX_u fX_r (Or.inl ⟨by decide, rfl⟩)
          have hfH : fH fr Bm (zup4 Bm 14 0 34 fr (zor (B 3 0 7 x) (2 ^ (idxS 0 (zi2b (Bm 14 0 9 j)) 102 0).toNat))) := fH_u fH_r (by decide) (by decide) (Int.le_refl _)
          have hfB := fX_B (lo := x) hfX (by decide) (Int.le_refl _)
          have hS1 := PS_f (PS_step hE hS (by first | decide | omega)) hfB hfH
          refine zP_m (ih (l := l + 1) (j := j + 1) (by first | decide | omega) (by first | decide | omega) (by first | decide | omega) (by first | decide | omega) (EV_f hE hfB hfH) hS1 ?_ ?_ ?_) (fun r F' B' r' Fm' Bm' hh => ?_)
          · simp [zup4_v]
          · simp [zup4_v]; omega
          · simp [zup4_v]; omega
          · obtain ⟨g1, g2, g3, g4, g5, g6, g7, g8, g9, g10, g11⟩ := hh
            rw [advF_o (by decide)] at g3 g8 g9 g10
            refine ⟨fF_t (fF_a fF_r) g1, fG_t (fG_u fG_r (by decide) (by decide)) g2, fX_t hfX g3, fH_t hfH g4, fun k hk => ?_, g6, g7, g8, g9, g10, ?_⟩
            · rw [g5 k hk]; funext y; rw [zup4_v, if_neg (fun z => by have := z.2.2.1; omega)]
            · rcases g11 with ⟨j', a, b⟩ | d
              · exact Or.inl ⟨j', (by first | decide | omega), b⟩
              · exact Or.inr d
        · rw [if_neg z, if_neg (fun w => z (b.1.mpr w)), L_wrong hg hM]
          simp only [zb_s]
          have er := PS_err2 hE hS
          unfold f_M_marks_7
          rw [L_goodB er.2]
          simp only [zb_s]
          rw [if_pos (by decide), if_pos trivial]
          unfold f_M_marks_68 f_Parser_takeMarks_56
          refine zP_s ⟨fF_r, fG_e fG_r, fX_r, fH_r, fun _ _ => rfl, h7, hb, rfl, rfl, rfl, Or.inr ⟨hS.1, hS.2.2.2.2.1, ⟨j, hS.2.1⟩, ?_, ?_, ?_, ?_⟩⟩
          · rw [hS.2.1.2.1]; exact k5
          · rw [ev5]; omega
          · unfold errM wr; rw [if_neg (by first | decide | omega)]; simp [zup3_v]
          · unfold errM; simp [zup3_v]; rw [h16]; exact hS.2.1.2.2.1.symm
    · have eM : mkm Bm j = 0 := by rw [mkm_v, if_neg k5]
      rw [eM, if_neg (show ¬ F 10 0 0 = 5 by omega), if_pos (show r32 0 by decide), if_pos (show (0 : Int) ≤ 0 by decide)]
      unfold f_Parser_takeMarks_82 f_M_marks_68
      exact zP_s ⟨fF_r, fG_r, fX_r, fH_r, fun _ _ => rfl, h7, hb, rfl, rfl, rfl, Or.inl ⟨j, Int.le_refl _, hS⟩⟩
end
end
section
section
/-! ===== the class's items and the reference's tokens: one tree ===== -/
def tnv (s : Int) : Int := 12 * (s / 7 + 1) + (2 * (s % 7) - (if s % 7 ≤ 2 then 0 else 1))
theorem nat_f : ∀ s : Fin 63, 0 ≤ zxor (s.val : Int) 7 ∧ zxor (s.val : Int) 7 < 1000 ∧ zdv (s.val : Int) 7 = (s.val : Int) / 7 ∧ zrm (s.val : Int) 7 = (s.val : Int) % 7 ∧ ztv 5 ((s.val : Int) % 7) = 2 * ((s.val : Int) % 7) - (if (s.val : Int) % 7 ≤ 2 then 0 else 1) := by decide +kernel
theorem C_nat {K : zK} {s : Int} {F : zF} {B : zB} (h0 : 0 ≤ s) (h1 : s ≤ 62) : f_S_naturalTone K s F B = some (tnv s, F, B) := by
  have h := nat_f ⟨s.toNat, (by first | decide | omega)⟩
  rw [show (((⟨s.toNat, (by first | decide | omega)⟩ : Fin 63).val : Nat) : Int) = s by show ((s.toNat : Nat) : Int) = s; omega] at h
  obtain ⟨x0, x1, d, r, t⟩ := h
  unfold f_S_naturalTone f_Math_floorDiv f_Math_floorMod f_Math_floorDiv_21 f_Math_floorMod_18
  rw [if_pos (iI_n0 (by decide) (by decide)), if_pos (by first | decide | omega), if_pos x0]
  simp only [zb_s]
  rw [if_pos (iI_n0 (by decide) (by decide)), if_pos (by first | decide | omega), if_pos x0, r]
  simp only [zb_s]
  rw [if_pos (by rw [show ztl 5 = 7 by decide]; omega), d, t]
  rfl
theorem tnv_b {s : Int} (h0 : 0 ≤ s) (h1 : s ≤ 62) : 12 ≤ tnv s ∧ tnv s ≤ 120 := by
  unfold tnv
  split <;> omega
def wdAt (Bm : zB) (i w : Int) : Prop := Bm 14 0 7 i = 4 ∧ Bm 14 0 11 i = w
def sgAt (Bm : zB) (i c : Int) : Prop := Bm 14 0 7 i = 5 ∧ Bm 14 0 9 i = c
def nmAt (Bm : zB) (i v lo hi : Int) : Prop := Bm 14 0 7 i = 3 ∧ Bm 14 0 9 i = v ∧ lo ≤ v ∧ v ≤ hi
/-- an event -/
def evR (B Bm : zB) (x i : Int) : Prop := B 3 0 2 x = lenV (Bm 14 0 32 i) (Bm 14 0 33 i) ∧ pw2 (Bm 14 0 32 i) ∧ (0 ≤ Bm 14 0 33 i ∧ Bm 14 0 33 i ≤ 2) ∧ B 3 0 7 x = Bm 14 0 34 i ∧ (0 ≤ B 3 0 7 x ∧ B 3 0 7 x < 128) ∧ (0 ≤ B 3 0 3 x ∧ B 3 0 3 x + B 3 0 6 x ≤ 1500) ∧ ((wdAt Bm i 114 ∧ B 3 0 6 x = 0) ∨ (B 3 0 6 x = 1 ∧ pitR B Bm (B 3 0 3 x) i 1) ∨ (sgAt Bm i 60 ∧ (2 ≤ B 3 0 6 x ∧ B 3 0 6 x ≤ 6) ∧ pitR B Bm (B 3 0 3 x) (i + 1) (B 3 0 6 x) ∧ ¬ Bm 14 0 7 (i + 1 + B 3 0 6 x) = 2))
/-- a use of the let q, one of the first L -/
def usR (L : Int) (B Bm : zB) (x i : Int) : Prop := wdAt Bm i 7697253 ∧ ∃ q, (0 ≤ q ∧ q < L) ∧ Bm 14 0 25 q = Bm 14 0 11 (i + 1) ∧ B 3 0 2 x = B 3 0 13 q ∧ ∀ p, 0 ≤ p → p < q → ¬ Bm 14 0 25 p = Bm 14 0 11 (i + 1)
/-- an item without a block -/
def IRl (L : Int) (B Bm : zB) (x i : Int) : Prop := B 3 0 1 x = Bm 14 0 8 i ∧ ((B 3 0 0 x = 0 ∧ evR B Bm x i) ∨ (B 3 0 0 x = 1 ∧ sgAt Bm i 124) ∨ (B 3 0 0 x = 2 ∧ sgAt Bm i 33 ∧ B 3 0 2 x = fiL wL (Bm 14 0 11 (i + 1)) 0 ∧ 0 ≤ B 3 0 2 x) ∨ (B 3 0 0 x = 5 ∧ usR L B Bm x i))
def LRf (R : zB → zB → Int → Int → Prop) (B Bm : zB) : Nat → Int → Int → Int → Prop
  | 0, x, i, e => x = -1 ∧ i = e
  | n + 1, x, i, e => (0 ≤ x ∧ x < 3000) ∧ (i < Bm 14 0 31 i ∧ Bm 14 0 31 i ≤ e) ∧ R B Bm x i ∧ LRf R B Bm n (B 3 0 5 x) (Bm 14 0 31 i) e
/-- the block that opens at token a hangs at x -/
def BKf (R : zB → zB → Int → Int → Prop) (B Bm : zB) (x a : Int) : Prop := a < Bm 14 0 30 a ∧ Bm 14 0 30 a ≤ 3000 ∧ ∃ m, LRf R B Bm m (B 3 0 4 x) (a + 1) (Bm 14 0 30 a)
def ALf (R : zB → zB → Int → Int → Prop) (B Bm : zB) : Nat → Int → Int → Int → Prop
  | 0, _, _, _ => False
  | n + 1, y, a, e => (0 ≤ y ∧ y < 3000) ∧ BKf R B Bm y a ∧ ((B 3 0 5 y = -1 ∧ Bm 14 0 30 a + 1 = e) ∨ (Bm 14 0 30 a + 1 < e ∧ ALf R B Bm n (B 3 0 5 y) (Bm 14 0 30 a + 1) e))
def mvV (Bm : zB) (i : Int) : Int := tnv (Bm 14 0 9 i) + Bm 14 0 10 i
/-- an item with blocks -/
def IRn (R : zB → zB → Int → Int → Prop) (B Bm : zB) (x i : Int) : Prop := B 3 0 1 x = Bm 14 0 8 i ∧
  ((B 3 0 0 x = 3 ∧ sgAt Bm i 91 ∧ nmAt Bm (i + 1) (B 3 0 2 x) 2 9 ∧ nmAt Bm (i + 3) (B 3 0 3 x) 1 9 ∧ i + 4 < Bm 14 0 30 i ∧ Bm 14 0 30 i ≤ 3000 ∧ ∃ m, LRf R B Bm m (B 3 0 4 x) (i + 5) (Bm 14 0 30 i)) ∨
   (B 3 0 0 x = 4 ∧ wdAt Bm i 125780002955636 ∧ nmAt Bm (i + 1) (B 3 0 2 x) 2 4 ∧ BKf R B Bm x (i + 2) ∧ ((B 3 0 3 x = -1 ∧ Bm 14 0 30 (i + 2) + 1 = Bm 14 0 31 i) ∨ (∃ n, ALf R B Bm n (B 3 0 3 x) (Bm 14 0 30 (i + 2) + 2) (Bm 14 0 31 i)))) ∨
   (B 3 0 0 x = 6 ∧ wdAt Bm i 1836021349 ∧ Bm 14 0 7 (i + 1) = 2 ∧ Bm 14 0 7 (i + 2) = 2 ∧ B 3 0 2 x = Bm 14 0 9 (i + 2) - Bm 14 0 9 (i + 1) ∧ B 3 0 3 x = mvV Bm (i + 2) - mvV Bm (i + 1) ∧ BKf R B Bm x (i + 3)) ∨
   (B 3 0 0 x = 7 ∧ wdAt Bm i 120299659095922 ∧ Bm 14 0 7 (i + 1) = 2 ∧ B 3 0 2 x = 2 * Bm 14 0 9 (i + 1) ∧ B 3 0 3 x = 2 * mvV Bm (i + 1) ∧ BKf R B Bm x (i + 2)) ∨
   (B 3 0 0 x = 8 ∧ wdAt Bm i 1650549611 ∧ BKf R B Bm x (i + 1)) ∨
   (B 3 0 0 x = 9 ∧ wdAt Bm i 1936486263 ∧ nmAt Bm (i + 1) (B 3 0 2 x) 1 8 ∧ nmAt Bm (i + 3) (B 3 0 3 x) 1 8 ∧ BKf R B Bm x (i + 4)))
def IRd (L : Int) : Nat → zB → zB → Int → Int → Prop
  | 0 => IRl L
  | d + 1 => fun B Bm x i => IRl L B Bm x i ∨ IRn (IRd L d) B Bm x i
/-- a later world agrees with this one on the items lo .. hi (but for what follows x) and the pitches pl .. ph -/
def agB (L lo hi pl ph x : Int) (B Bx : zB) : Prop := (∀ k y, k ≤ 7 → lo ≤ y → y < hi → ¬ (k = 5 ∧ y = x) → Bx 3 0 k y = B 3 0 k y) ∧ (∀ k y, 8 ≤ k → k ≤ 10 → pl ≤ y → y < ph → Bx 3 0 k y = B 3 0 k y) ∧ (∀ q, 0 ≤ q → q < L → Bx 3 0 13 q = B 3 0 13 q)
def agM (L i e : Int) (Bm Bx : zB) : Prop := (∀ k y, 30 ≤ k → k ≤ 34 → i ≤ y → y < e → Bx 14 0 k y = Bm 14 0 k y) ∧ (∀ k, 7 ≤ k → k ≤ 11 → Bx 14 0 k = Bm 14 0 k) ∧ (∀ q, 0 ≤ q → q < L → Bx 14 0 25 q = Bm 14 0 25 q)
theorem agB_r {L lo hi pl ph x : Int} {B : zB} : agB L lo hi pl ph x B B := ⟨fun _ _ _ _ _ _ => rfl, fun _ _ _ _ _ _ => rfl, fun _ _ _ => rfl⟩
theorem agM_r {L i e : Int} {B : zB} : agM L i e B B := ⟨fun _ _ _ _ _ _ => rfl, fun _ _ _ => rfl, fun _ _ _ => rfl⟩
theorem agB_t {L lo hi pl ph x : Int} {B B' B'' : zB} (h : agB L lo hi pl ph x B B') (h' : agB L lo hi pl ph x B' B'') : agB L lo hi pl ph x B B'' := ⟨fun k y a b c d => by rw [h'.1 k y a b c d, h.1 k y a b c d], fun k y a b c d => by rw [h'.2.1 k y a b c d, h.2.1 k y a b c d], fun q a b => by rw [h'.2.2 q a b, h.2.2 q a b]⟩
theorem agM_t {L i e : Int} {B B' B'' : zB} (h : agM L i e B B') (h' : agM L i e B' B'') : agM L i e B B'' := ⟨fun k y a b c d => by rw [h'.1 k y a b c d, h.1 k y a b c d], fun k a b => by rw [h'.2.1 k a b, h.2.1 k a b], fun q a b => by rw [h'.2.2 q a b, h.2.2 q a b]⟩
theorem agB_m {L lo hi pl ph x lo' hi' pl' ph' x' : Int} {B B' : zB} (h : agB L lo hi pl ph x B B') (h1 : lo ≤ lo') (h2 : hi' ≤ hi) (h3 : pl ≤ pl') (h4 : ph' ≤ ph) (h5 : x' = x ∨ x < lo' ∨ hi' ≤ x) : agB L lo' hi' pl' ph' x' B B' := ⟨fun k y a b c d => h.1 k y a (by first | decide | omega) (by first | decide | omega) (fun z => by rcases h5 with q | q | q <;> omega), fun k y a b c d => h.2.1 k y a b (by first | decide | omega) (by first | decide | omega), h.2.2⟩
theorem agM_m {L i e i' e' : Int} {B B' : zB} (h : agM L i e B B') (h1 : i ≤ i') (h2 : e' ≤ e) : agM L i' e' B B' := ⟨fun k y a b c d => h.1 k y a b (by first | decide | omega) (by first | decide | omega), h.2⟩
/-- frames give agreement -/
theorem agB_f {L lo hi pl ph x lo' pl' : Int} {B B' : zB} (h : fB lo' pl' B B') (h1 : hi ≤ lo') (h2 : ph ≤ pl') : agB L lo hi pl ph x B B' := ⟨fun k y a b c d => h 3 0 k y (fun z => by have := z.2.2.2; omega) (fun z => by have := z.2.2.1; omega), fun k y a b c d => h 3 0 k y (fun z => by have := z.2.2.1; omega) (fun z => by have := z.2.2.2.2; omega), fun q a b => h 3 0 13 q (fun z => absurd z.2.2.1 (by decide)) (fun z => absurd z.2.2.2.1 (by decide))⟩
theorem agM_f {L i e fr : Int} {B B' : zB} (h : fH fr B B') (h1 : e ≤ fr) : agM L i e B B' := ⟨fun k y a b c d => h 14 0 k y (fun z => by have := z.2.2.2.2; omega), fun k a b => fH_k h k (by first | decide | omega), fun q a b => h 14 0 25 q (fun z => absurd z.2.2.1 (by decide))⟩
def SIR (L : Int) (d : Nat) (x i hi pl ph e : Int) (B Bm : zB) : Prop := ∀ Bx By, agB L x hi pl ph x B Bx → agM L i e Bm By → IRd L d Bx By x i
def SLR (L : Int) (d : Nat) (n : Nat) (y i e lo hi pl ph : Int) (B Bm : zB) : Prop := ∀ Bx By, agB L lo hi pl ph (-1) B Bx → agM L i e Bm By → LRf (IRd L d) Bx By n y i e
theorem SIR_t {L : Int} {d : Nat} {x i hi pl ph e : Int} {B Bm B' Bm' : zB} (h : SIR L d x i hi pl ph e B Bm) (hB : agB L x hi pl ph x B B') (hM : agM L i e Bm Bm') : SIR L d x i hi pl ph e B' Bm' := fun Bx By a b => h Bx By (agB_t hB a) (agM_t hM b)
theorem SLR_t {L : Int} {d n : Nat} {y i e lo hi pl ph : Int} {B Bm B' Bm' : zB} (h : SLR L d n y i e lo hi pl ph B Bm) (hB : agB L lo hi pl ph (-1) B B') (hM : agM L i e Bm Bm') : SLR L d n y i e lo hi pl ph B' Bm' := fun Bx By a b => h Bx By (agB_t hB a) (agM_t hM b)
end
end
section
section
/-! ===== what follows the pitches of an event, on both sides ===== -/
theorem L_202 {o : oT_P} {Km : Nat} {fr : Int} {Fm : zF} {Bm : zB} (hf : 0 ≤ fr ∧ fr ≤ 3000) : f_M_item_202 o Km fr Fm Bm = some (0, Fm, zup4 Bm 14 0 31 fr (Fm 14 0 16)) := by
  unfold f_M_item_202
  rw [if_pos (by first | decide | omega)]
theorem L_marksB {Km : Nat} {fr : Int} {Fm : zF} {Bm : zB} (hK : 3002 ≤ Km) (hf : 0 ≤ fr ∧ fr ≤ 3000) (h : bad Fm) : f_M_marks Km fr Fm Bm = some (0, Fm, zup4 Bm 14 0 34 fr 0) := by
  obtain ⟨m, rfl⟩ : ∃ y, Km = y + 1 := ⟨Km - 1, (by first | decide | omega)⟩
  unfold f_M_marks f_M_marks_7 f_M_marks_68
  rw [if_pos (by first | decide | omega), L_goodB h]
  simp only [zb_s]
  rw [if_pos (by decide), if_pos trivial]
/-- an event's length and marks are taken; j2 is behind them -/
def EVT (N j x fr : Int) (F : zF) (F' : zF) (B' : zB) (Fm' : zF) (Bm' : zB) : Prop := B' 3 0 2 x = lenV (Bm' 14 0 32 fr) (Bm' 14 0 33 fr) ∧ pw2 (Bm' 14 0 32 fr) ∧ (0 ≤ Bm' 14 0 33 fr ∧ Bm' 14 0 33 fr ≤ 2) ∧ B' 3 0 7 x = Bm' 14 0 34 fr ∧ (0 ≤ B' 3 0 7 x ∧ B' 3 0 7 x < 128) ∧ Bm' 14 0 31 fr = Fm' 14 0 16 ∧ F' 3 0 14 = F 3 0 14 ∧ F' 3 0 15 = F 3 0 15 ∧ F' 3 0 18 = F 3 0 18 ∧ ((∃ j', j ≤ j' ∧ PS N j' F' B' Fm' Bm') ∨ DEL N F' B' Fm' Bm')
theorem P_tail91 {o : oT_P} {K : zK} {Km : Nat} {N j x fr : Int} {F : zF} {B : zB} {Fm : zF} {Bm : zB} (hx : 0 ≤ x ∧ x < 3000) (hf : 0 ≤ fr ∧ fr ≤ 3000) (hE : EV K Km N B Bm) (hS : PS N j F B Fm Bm) (h7 : B 3 0 7 x = 0) (h32 : Bm 14 0 32 fr = Fm 14 0 20) (h33 : Bm 14 0 33 fr = Fm 14 0 21) (hdp : 1 ≤ F 3 0 18) : zP (f_Parser_takeEvent_91 K 0 0 x F B) (zbind (f_M_marks Km fr Fm Bm) (fun _ F3 B3 => f_M_item_202 o Km fr F3 B3)) (fun r F' B' _ Fm' Bm' => fF F F' ∧ fG Fm Fm' ∧ fX [2, 7] x (F 3 0 15) B B' ∧ fH fr Bm Bm' ∧ r = 1 ∧ EVT N j x fr F F' B' Fm' Bm') := by
  have k3 := hE.2.2.2.1
  have k1 := hE.2.2.2.2.2.1
  have km := hE.2.2.2.2.2.2
  have hl := PS_pw hS hdp
  have hX1 : fX [2, 7] x (F 3 0 15) B (zup4 B 3 0 2 x (F 3 0 20)) := fX_u fX_r (Or.inl ⟨by decide, rfl⟩)
  have hH1 : fH fr Bm (zup4 Bm 14 0 34 fr 0) := fH_u fH_r (by decide) (by decide) (Int.le_refl _)
  have hB1 := fX_B (lo := x) hX1 (by decide) (Int.le_refl _)
  unfold f_Parser_takeEvent_91 f_Parser_takeMarks f_M_marks f_Parser_takeEvent_110
  rw [if_pos ⟨(by first | decide | omega), k3⟩, if_pos hx, if_pos (by decide), if_pos rfl, if_pos (by first | decide | omega)]
  refine zP_c (P_marks (K := K) (Km := Km) (N := N) (x := x) (fr := fr) hx hf (q := 7) (l := 0) (j := j) (by first | decide | omega) (by first | decide | omega) (by first | decide | omega) (by first | decide | omega) (EV_f hE hB1 hH1) (PS_f hS hB1 hH1) ?_ ?_ ?_) (fun r F' B' r' Fm' Bm' hh => ?_)
  · simp [zup4_v, h7]
  · simp [zup4_v, h7]
  · simp [zup4_v, h7, mcnt]
  · obtain ⟨g1, g2, g3, g4, g5, g6, g7, g8, g9, g10, g11⟩ := hh
    rw [L_202 hf]
    have hH2 : fH fr Bm' (zup4 Bm' 14 0 31 fr (Fm' 14 0 16)) := fH_u fH_r (by decide) (by decide) (Int.le_refl _)
    have e32 : Bm' 14 0 32 fr = Fm 14 0 20 := by rw [g5 32 (by decide)]; simp [zup4_v]; exact h32
    have e33 : Bm' 14 0 33 fr = Fm 14 0 21 := by rw [g5 33 (by decide)]; simp [zup4_v]; exact h33
    refine zP_s ⟨g1, g2, fX_t hX1 (fX_m g3 (by decide) (Int.le_refl _)), fH_t hH1 (fH_t g4 hH2), rfl, ?_, ?_, ?_, ?_, g7, ?_, g8, g9, g10, ?_⟩
    · rw [fX_3 g3 (by decide) (by decide)]
      simp [zup4_v]
      rw [e32, e33]; exact hl.1
    · simp [zup4_v]; rw [e32]; exact hl.2.1
    · simp [zup4_v]; rw [e33]; exact hl.2.2
    · simp [zup4_v]; exact g6
    · simp [zup4_v]
    · rcases g11 with ⟨j', a, b⟩ | d
      · exact Or.inl ⟨j', a, PS_f (lo := 0) (pl := 0) b fB_r hH2⟩
      · refine Or.inr ?_
        obtain ⟨d1, d2, ⟨jj, d3⟩, d4⟩ := d
        refine ⟨d1, d2, ⟨jj, ?_⟩, d4⟩
        unfold CUR at *
        simp only [zup4_v]
        simpa using d3
theorem P_tail0 {o : oT_P} {K : zK} {Km : Nat} {N j x fr : Int} {F : zF} {B : zB} {Fm : zF} {Bm : zB} (hx : 0 ≤ x ∧ x < 3000) (hf : 0 ≤ fr ∧ fr ≤ 3000) (hE : EV K Km N B Bm) (hS : PS N j F B Fm Bm) (h7 : B 3 0 7 x = 0) (hdp : 1 ≤ F 3 0 18) : zP (f_Parser_takeEvent_70 K 0 0 x F B) (zbind (f_M_length Km fr Fm Bm) (fun _ F2 B2 => zbind (f_M_marks Km fr F2 B2) (fun _ F3 B3 => f_M_item_202 o Km fr F3 B3))) (fun r F' B' _ Fm' Bm' => fF F F' ∧ fG Fm Fm' ∧ fX [2, 7] x (F 3 0 15) B B' ∧ fH fr Bm Bm' ∧ (r = 1 ∧ EVT N j x fr F F' B' Fm' Bm' ∨ r = 0 ∧ ERR F' Fm')) := by
  have hg := hS.2.2.2.1
  have hX := PS_CX hE hS
  have hM := PS_MX hE hS
  have e11 := hS.1
  have k3 := hE.2.2.2.1
  have k10 := hE.2.2.2.2.1
  have km := hE.2.2.2.2.2.2
  have s := sgm_r Bm j 58
  unfold f_Parser_takeEvent_70
  rw [if_pos ⟨(by first | decide | omega), k3⟩, e11, if_pos ⟨(by first | decide | omega), k10⟩, C_isSign hX (by decide), PS_sg hE hS]
  simp only [zb_s]
  rw [if_pos (show r32 (sgm Bm j 58) by omega)]
  by_cases z : sgm Bm j 58 = 0
  · rw [if_pos z, L_length0 hf hg hM z]
    simp only [zb_s]
    have hH : fH fr Bm (zup4 (zup4 Bm 14 0 32 fr (Fm 14 0 20)) 14 0 33 fr (Fm 14 0 21)) := fH_l
    refine zP_m (P_tail91 (o := o) hx hf (EV_f hE (fB_r (lo := 0) (pl := 0)) hH) (PS_f hS (fB_r (lo := 0) (pl := 0)) hH) h7 (by simp [zup4_v]) (by simp [zup4_v]) hdp) (fun r F' B' r' Fm' Bm' hh => ?_)
    obtain ⟨g1, g2, g3, g4, g5, g6⟩ := hh
    exact ⟨g1, g2, g3, fH_t hH g4, Or.inl ⟨g5, g6⟩⟩
  · rw [if_neg z]
    refine zP_c (P_takeLength hf hE hS z) (fun r F' B' r' Fm' Bm' hh => ?_)
    obtain ⟨g1, g2, g3, g4l, g5⟩ := hh
    have g4 := fL_H g4l
    subst g1
    rcases g5 with ⟨rfl, j', h1, h2, h3, h4, h5, h6, h8⟩ | ⟨rfl, er⟩
    · rw [if_pos (show r32 1 by decide), if_neg (show ¬ (1 : Int) = 0 by decide)]
      refine zP_m (P_tail91 (o := o) hx hf (EV_f hE (fB_r (lo := 0) (pl := 0)) g4) h2 h7 h3 h4 (by first | decide | omega)) (fun r F'' B'' r' Fm'' Bm'' hh => ?_)
      obtain ⟨q1, q2, q3, q4, q5, q6⟩ := hh
      rw [h6] at q3
      obtain ⟨y1, y2, y3, y4, y5, y6, y7, y8, y9, y10⟩ := q6
      refine ⟨fF_t g2 q1, fG_t g3 q2, q3, fH_t g4 q4, Or.inl ⟨q5, y1, y2, y3, y4, y5, y6, (by first | decide | omega), (by first | decide | omega), (by first | decide | omega), ?_⟩⟩
      rcases y10 with ⟨jj, a, b⟩ | d
      · exact Or.inl ⟨jj, (by first | decide | omega), b⟩
      · exact Or.inr d
    · rw [if_pos (show r32 0 by decide), if_pos rfl, L_marksB km hf er.2]
      simp only [zb_s]
      rw [L_202 hf]
      exact zP_s ⟨g2, g3, fX_r, fH_t g4 (fH_u (fH_u fH_r (by decide) (by decide) (Int.le_refl _)) (by decide) (by decide) (Int.le_refl _)), Or.inr ⟨rfl, er⟩⟩
theorem P_tail1 {o : oT_P} {K : zK} {Km : Nat} {N j x fr : Int} {F : zF} {B : zB} {Fm : zF} {Bm : zB} (hx : 0 ≤ x ∧ x < 3000) (hf : 0 ≤ fr ∧ fr ≤ 3000) (hE : EV K Km N B Bm) (hS : PS N j F B Fm Bm) (h7 : B 3 0 7 x = 0) (h34 : Bm 14 0 34 fr = 0) (hdp : 1 ≤ F 3 0 18) : zP (f_Parser_takeEvent_70 K 1 0 x F B) (zbind (f_M_length Km fr Fm Bm) (fun _ F2 B2 => f_M_item_202 o Km fr F2 B2)) (fun r F' B' _ Fm' Bm' => fF F F' ∧ fG Fm Fm' ∧ fX [2, 7] x (F 3 0 15) B B' ∧ fH fr Bm Bm' ∧ (r = 1 ∧ EVT N j x fr F F' B' Fm' Bm' ∨ r = 0 ∧ ERR F' Fm')) := by
  have hg := hS.2.2.2.1
  have hX := PS_CX hE hS
  have hM := PS_MX hE hS
  have e11 := hS.1
  have k3 := hE.2.2.2.1
  have k10 := hE.2.2.2.2.1
  have km := hE.2.2.2.2.2.2
  have s := sgm_r Bm j 58
  have fin : ∀ {j : Int} {F : zF} {Fm : zF} {Bm : zB}, EV K Km N B Bm → PS N j F B Fm Bm → Bm 14 0 32 fr = Fm 14 0 20 → Bm 14 0 33 fr = Fm 14 0 21 → Bm 14 0 34 fr = 0 → 1 ≤ F 3 0 18 → zP (f_Parser_takeEvent_91 K 1 0 x F B) (f_M_item_202 o Km fr Fm Bm) (fun r F' B' _ Fm' Bm' => fF F F' ∧ fG Fm Fm' ∧ fX [2, 7] x (F 3 0 15) B B' ∧ fH fr Bm Bm' ∧ r = 1 ∧ EVT N j x fr F F' B' Fm' Bm') := by
    intro j F Fm Bm hE hS h32 h33 h34 hdp
    have hl := PS_pw hS hdp
    have hX1 : fX [2, 7] x (F 3 0 15) B (zup4 B 3 0 2 x (F 3 0 20)) := fX_u fX_r (Or.inl ⟨by decide, rfl⟩)
    have hB1 := fX_B (lo := x) hX1 (by decide) (Int.le_refl _)
    have hH2 : fH fr Bm (zup4 Bm 14 0 31 fr (Fm 14 0 16)) := fH_u fH_r (by decide) (by decide) (Int.le_refl _)
    unfold f_Parser_takeEvent_91 f_Parser_takeEvent_110
    rw [if_pos ⟨(by first | decide | omega), k3⟩, if_pos hx, if_pos (by decide), if_neg (by decide), L_202 hf]
    refine zP_s ⟨fF_r, fG_r, hX1, hH2, rfl, ?_, ?_, ?_, ?_, ?_, ?_, rfl, rfl, rfl, Or.inl ⟨j, Int.le_refl _, PS_f hS hB1 hH2⟩⟩
    · simp [zup4_v]; rw [h32, h33]; exact hl.1
    · simp [zup4_v]; rw [h32]; exact hl.2.1
    · simp [zup4_v]; rw [h33]; exact hl.2.2
    · simp [zup4_v]; rw [h7, h34]
    · simp [zup4_v]; rw [h7]; decide
    · simp [zup4_v]
  unfold f_Parser_takeEvent_70
  rw [if_pos ⟨(by first | decide | omega), k3⟩, e11, if_pos ⟨(by first | decide | omega), k10⟩, C_isSign hX (by decide), PS_sg hE hS]
  simp only [zb_s]
  rw [if_pos (show r32 (sgm Bm j 58) by omega)]
  by_cases z : sgm Bm j 58 = 0
  · rw [if_pos z, L_length0 hf hg hM z]
    simp only [zb_s]
    have hH : fH fr Bm (zup4 (zup4 Bm 14 0 32 fr (Fm 14 0 20)) 14 0 33 fr (Fm 14 0 21)) := fH_l
    refine zP_m (fin (EV_f hE (fB_r (lo := 0) (pl := 0)) hH) (PS_f hS (fB_r (lo := 0) (pl := 0)) hH) (by simp [zup4_v]) (by simp [zup4_v]) (by simp [zup4_v]; exact h34) hdp) (fun r F' B' r' Fm' Bm' hh => ?_)
    obtain ⟨g1, g2, g3, g4, g5, g6⟩ := hh
    exact ⟨g1, g2, g3, fH_t hH g4, Or.inl ⟨g5, g6⟩⟩
  · rw [if_neg z]
    refine zP_c (P_takeLength hf hE hS z) (fun r F' B' r' Fm' Bm' hh => ?_)
    obtain ⟨g1, g2, g3, g4l, g5⟩ := hh
    have g4 := fL_H g4l
    have e34 : Bm' 14 0 34 = Bm 14 0 34 := fL_34 g4l 34 (by decide) (by decide)
    subst g1
    rcases g5 with ⟨rfl, j', h1, h2, h3, h4, h5, h6, h8⟩ | ⟨rfl, er⟩
    · rw [if_pos (show r32 1 by decide), if_neg (show ¬ (1 : Int) = 0 by decide)]
      refine zP_m (fin (EV_f hE (fB_r (lo := 0) (pl := 0)) g4) h2 h3 h4 (by rw [e34]; exact h34) (by first | decide | omega)) (fun r F'' B'' r' Fm'' Bm'' hh => ?_)
      obtain ⟨q1, q2, q3, q4, q5, q6⟩ := hh
      rw [h6] at q3
      obtain ⟨y1, y2, y3, y4, y5, y6, y7, y8, y9, y10⟩ := q6
      refine ⟨fF_t g2 q1, fG_t g3 q2, q3, fH_t g4 q4, Or.inl ⟨q5, y1, y2, y3, y4, y5, y6, (by first | decide | omega), (by first | decide | omega), (by first | decide | omega), ?_⟩⟩
      rcases y10 with ⟨jj, a, b⟩ | d
      · exact Or.inl ⟨jj, (by first | decide | omega), b⟩
      · exact Or.inr d
    · rw [if_pos (show r32 0 by decide), if_pos rfl, L_202 hf]
      exact zP_s ⟨g2, g3, fX_r, fH_t g4 (fH_u fH_r (by decide) (by decide) (Int.le_refl _)), Or.inr ⟨rfl, er⟩⟩
end
end
section
section
/-! ===== events, on both sides ===== -/
theorem zb_a {x : zO} {k k' : Int → zF → zB → zO} : zbind (zbind x k) k' = zbind x (fun r F B => zbind (k r F B) k') := by
  cases x with
  | none => rfl
  | some q => rfl
def fresh (B Bm : zB) (x j s : Int) : Prop := B 3 0 0 x = s ∧ B 3 0 1 x = Bm 14 0 8 j ∧ B 3 0 2 x = 0 ∧ B 3 0 3 x = -1 ∧ B 3 0 4 x = -1 ∧ B 3 0 5 x = -1 ∧ B 3 0 6 x = 0 ∧ B 3 0 7 x = 0
/-- an item is taken, the same on both sides -/
def OKI (L : Int) (d : Nat) (N j x : Int) (F : zF) (F' : zF) (B' : zB) (Fm' : zF) (Bm' : zB) : Prop := ∃ j', j < j' ∧ PS N j' F' B' Fm' Bm' ∧ Bm' 14 0 31 j = j' ∧ F' 3 0 18 = F 3 0 18 ∧ (F 3 0 14 ≤ F' 3 0 14 ∧ F' 3 0 14 - F 3 0 14 ≤ j' - j - 1) ∧ F 3 0 15 ≤ F' 3 0 15 ∧ B' 3 0 5 x = -1 ∧ SIR L d x j (F' 3 0 14) (F 3 0 15) (F' 3 0 15) j' B' Bm'
def IPO (L : Int) (d : Nat) (N j x : Int) (F : zF) (B : zB) (Fm : zF) (Bm : zB) (r : Int) (F' : zF) (B' : zB) (Fm' : zF) (Bm' : zB) : Prop := fF F F' ∧ fG Fm Fm' ∧ fB x (F 3 0 15) B B' ∧ fH j Bm Bm' ∧ (r = 1 ∧ (OKI L d N j x F F' B' Fm' Bm' ∨ DEL N F' B' Fm' Bm') ∨ r = 0 ∧ ERR F' Fm')
theorem IRd_l {L : Int} {d : Nat} {B Bm : zB} {x i : Int} (h : IRl L B Bm x i) : IRd L d B Bm x i := by
  cases d with
  | zero => exact h
  | succ d => exact Or.inl h
theorem pitR_c {B Bm Bx By : zB} {p i m pl ph : Int} (h : pitR B Bm p i m) (hB : ∀ k y, 8 ≤ k → k ≤ 10 → pl ≤ y → y < ph → Bx 3 0 k y = B 3 0 k y) (hp : pl ≤ p ∧ p + m ≤ ph) (hM : ∀ k, 7 ≤ k → k ≤ 11 → By 14 0 k = Bm 14 0 k) : pitR Bx By p i m := by
  intro k k0 k1
  rw [hB 8 _ (by decide) (by decide) (by first | decide | omega) (by first | decide | omega), hB 9 _ (by decide) (by decide) (by first | decide | omega) (by first | decide | omega), hB 10 _ (by decide) (by decide) (by first | decide | omega) (by first | decide | omega), hM 9 (by decide) (by decide), hM 10 (by decide) (by decide), hM 8 (by decide) (by decide), hM 7 (by decide) (by decide)]
  exact h k k0 k1
theorem ev_SIR {L : Int} {d : Nat} {x j hi pl ph e : Int} {B Bm : zB} (h0 : B 3 0 0 x = 0) (h1 : B 3 0 1 x = Bm 14 0 8 j) (hv : evR B Bm x j) (hx : x < hi) (hp : pl ≤ B 3 0 3 x ∧ B 3 0 3 x + B 3 0 6 x ≤ ph) (he : j < e) : SIR L d x j hi pl ph e B Bm := by
  intro Bx By a b
  have g : ∀ k, k ≤ 7 → k ≠ 5 → Bx 3 0 k x = B 3 0 k x := fun k hk hn => a.1 k x hk (Int.le_refl _) hx (fun z => hn z.1)
  have t : ∀ k, 30 ≤ k → k ≤ 34 → By 14 0 k j = Bm 14 0 k j := fun k hk hl => b.1 k j hk hl (Int.le_refl _) he
  have w : ∀ k, 7 ≤ k → k ≤ 11 → By 14 0 k = Bm 14 0 k := b.2.1
  refine IRd_l ⟨?_, Or.inl ⟨?_, ?_⟩⟩
  · rw [g 1 (by decide) (by decide), w 8 (by decide) (by decide)]; exact h1
  · rw [g 0 (by decide) (by decide)]; exact h0
  · obtain ⟨v1, v2, v3, v4, v5, v6, v7⟩ := hv
    unfold evR wdAt sgAt
    rw [g 2 (by decide) (by decide), g 3 (by decide) (by decide), g 6 (by decide) (by decide), g 7 (by decide) (by decide), t 32 (by decide) (by decide), t 33 (by decide) (by decide), t 34 (by decide) (by decide), w 7 (by decide) (by decide), w 9 (by decide) (by decide), w 11 (by decide) (by decide)]
    refine ⟨v1, v2, v3, v4, v5, v6, ?_⟩
    rcases v7 with q | ⟨q1, q2⟩ | ⟨q1, q2, q3, q4⟩
    · exact Or.inl q
    · exact Or.inr (Or.inl ⟨q1, pitR_c q2 a.2.1 (by first | decide | omega) w⟩)
    · exact Or.inr (Or.inr ⟨q1, q2, pitR_c q3 a.2.1 (by first | decide | omega) w, q4⟩)
/-- from the tail's outcome to the item's -/
theorem EVT_OKI {L : Int} {d : Nat} {K : zK} {Km : Nat} {N j j1 x : Int} {F F1 : zF} {F' : zF} {B' : zB} {Fm' : zF} {Bm' : zB} (hE : EV K Km N B' Bm') (ht : EVT N j1 x j F1 F' B' Fm' Bm') (hj : j < j1) (e14 : F1 3 0 14 = F 3 0 14) (e15 : F 3 0 15 ≤ F1 3 0 15) (e18 : F1 3 0 18 = F 3 0 18) (hx : x < F 3 0 14) (h0 : B' 3 0 0 x = 0) (h1 : B' 3 0 1 x = Bm' 14 0 8 j) (h3 : B' 3 0 3 x = F 3 0 15) (h5 : B' 3 0 5 x = -1) (p0 : 0 ≤ F 3 0 15) (h6 : B' 3 0 3 x + B' 3 0 6 x ≤ F1 3 0 15) (hv : ((wdAt Bm' j 114 ∧ B' 3 0 6 x = 0) ∨ (B' 3 0 6 x = 1 ∧ pitR B' Bm' (B' 3 0 3 x) j 1) ∨ (sgAt Bm' j 60 ∧ (2 ≤ B' 3 0 6 x ∧ B' 3 0 6 x ≤ 6) ∧ pitR B' Bm' (B' 3 0 3 x) (j + 1) (B' 3 0 6 x) ∧ ¬ Bm' 14 0 7 (j + 1 + B' 3 0 6 x) = 2))) : OKI L d N j x F F' B' Fm' Bm' ∨ DEL N F' B' Fm' Bm' := by
  obtain ⟨y1, y2, y3, y4, y5, y6, y7, y8, y9, y10⟩ := ht
  rcases y10 with ⟨j2, a, b⟩ | dd
  · left
    have tk := hE.1.2.2 j2 b.2.1.1.1 b.2.1.1.2
    have pb := b.2.2.2.2.2.2.2
    have pc := tk.2.2.2.2.2.2.2.2.2.1
    refine ⟨j2, (by first | decide | omega), b, by rw [y6]; exact b.2.2.1, (by first | decide | omega), (by first | decide | omega), (by first | decide | omega), h5, ?_⟩
    refine ev_SIR h0 h1 ⟨y1, y2, y3, y4, y5, ⟨(by first | decide | omega), (by first | decide | omega)⟩, hv⟩ (by first | decide | omega) ⟨(by first | decide | omega), (by first | decide | omega)⟩ (by first | decide | omega)
  · exact Or.inr dd
theorem P_evP {o : oT_P} {L : Int} {d : Nat} {K : zK} {Km : Nat} {N j x : Int} {F : zF} {B : zB} {Fm : zF} {Bm : zB} (hx : 0 ≤ x ∧ x < 3000) (hxi : x < F 3 0 14) (hE : EV K Km N B Bm) (hS : PS N j F B Fm Bm) (hF : fresh B Bm x j 0) (h2 : Bm 14 0 7 j = 2) (hdp : 1 ≤ F 3 0 18) : zP (f_Parser_takeEvent K 0 x F B) (zbind (f_M_length Km j (zup3 Fm 14 0 16 (j + 1)) Bm) (fun _ F2 B2 => zbind (f_M_marks Km j F2 B2) (fun _ F3 B3 => f_M_item_202 o Km j F3 B3))) (fun r F' B' _ Fm' Bm' => IPO L d N j x F B Fm Bm r F' B' Fm' Bm') := by
  have e11 := hS.1
  have k3 := hE.2.2.2.1
  have k10 := hE.2.2.2.2.1
  have ek := hS.2.1.2.1
  have jj := hS.2.1.1
  have nn := hE.1.2.1
  obtain ⟨f0, f1, f2, f3, f4, f5, f6, f7⟩ := hF
  have hX0 : fX [3] x (F 3 0 15) B (zup4 B 3 0 3 x (F 3 0 15)) := fX_u fX_r (Or.inl ⟨by decide, rfl⟩)
  have hB0 := fX_B (lo := x) hX0 (by decide) (Int.le_refl _)
  have hE0 := EV_f hE hB0 (fH_r (fr := 0))
  have hS0 := PS_f hS hB0 (fH_r (fr := 0))
  obtain ⟨pp, hS1, hX1, h61, hR⟩ := PS_pit (x := x) hE0 hS0 h2
  have hB1 := fX_B (lo := x) hX1 (by decide) (Int.le_refl _)
  have hE1 := EV_f hE0 hB1 (fH_r (fr := 0))
  unfold f_Parser_takeEvent f_Parser_takeEvent_26
  rw [if_pos ⟨(by first | decide | omega), k3⟩, if_pos hx, e11, if_pos ⟨(by first | decide | omega), k10⟩, if_pos (by first | decide | omega), if_neg (by first | decide | omega), if_pos (by decide), if_pos rfl, if_pos ⟨(by first | decide | omega), k3⟩, if_pos ⟨(by first | decide | omega), k10⟩, if_pos (by first | decide | omega), if_pos (by first | decide | omega), C_takePitch (PS_CX hE0 hS0) pp hx]
  simp only [zb_s]
  refine zP_m (P_tail0 (o := o) (fr := j) hx (by first | decide | omega) hE1 hS1 ?_ (by rw [advF_o (by decide)]; simp [zup3_v]; exact hdp)) (fun r F' B' r' Fm' Bm' hh => ?_)
  · rw [fX_3 hX1 (by decide) (by decide), fX_3 hX0 (by decide) (by decide)]; exact f7
  · obtain ⟨g1, g2, g3, g4, g5⟩ := hh
    have e15 : (advF (zup3 F 3 0 15 (F 3 0 15 + 1)) (zup4 B 3 0 3 x (F 3 0 15))) 3 0 15 = F 3 0 15 + 1 := by rw [advF_o (by decide)]; simp [zup3_v]
    have e14 : (advF (zup3 F 3 0 15 (F 3 0 15 + 1)) (zup4 B 3 0 3 x (F 3 0 15))) 3 0 14 = F 3 0 14 := by rw [advF_o (by decide)]; simp [zup3_v]
    have e18 : (advF (zup3 F 3 0 15 (F 3 0 15 + 1)) (zup4 B 3 0 3 x (F 3 0 15))) 3 0 18 = F 3 0 18 := by rw [advF_o (by decide)]; simp [zup3_v]
    rw [e15] at g3
    have hXX : fX [2, 3, 6, 7] x (F 3 0 15) B B' := fX_t (fX_m hX0 (by decide) (Int.le_refl _)) (fX_t (fX_m hX1 (by decide) (Int.le_refl _)) (fX_m g3 (by decide) (by first | decide | omega)))
    have w : ∀ k, 7 ≤ k → k ≤ 11 → Bm' 14 0 k = Bm 14 0 k := fun k _ hk => fH_k g4 k (by first | decide | omega)
    refine ⟨fF_t (fF_a (fF_u fF_r (by decide))) g1, fG_t (fG_u fG_r (by decide) (by decide)) g2, fX_B hXX (by decide) (Int.le_refl _), g4, ?_⟩
    rcases g5 with ⟨r1, ev⟩ | er
    · have e3 : B' 3 0 3 x = F 3 0 15 := by rw [fX_3 g3 (by decide) (by decide), fX_3 hX1 (by decide) (by decide)]; simp [zup4_v]
      have e6 : B' 3 0 6 x = 1 := by rw [fX_3 g3 (by decide) (by decide), h61, fX_3 hX0 (by decide) (by decide), f6]; rfl
      refine Or.inl ⟨r1, EVT_OKI (EV_f hE1 (fX_B (lo := x) g3 (by decide) (Int.le_refl _)) g4) ev (by first | decide | omega) e14 (by first | decide | omega) e18 hxi ?_ ?_ e3 ?_ (by first | decide | omega) (by first | decide | omega) ?_⟩
      · rw [fX_3 hXX (by decide) (by decide)]; exact f0
      · rw [fX_3 hXX (by decide) (by decide), w 8 (by decide) (by decide)]; exact f1
      · rw [fX_3 hXX (by decide) (by decide)]; exact f5
      · refine Or.inr (Or.inl ⟨e6, ?_⟩)
        rw [e3]
        refine pitR_c (pl := F 3 0 15) (ph := F 3 0 15 + 1) hR (fun k y a b c dd => ?_) (by first | decide | omega) w
        exact g3 3 0 k y (fun z => by have := z.2.2.1; simp at this; omega) (fun z => by have := z.2.2.2.2; omega)
    · exact Or.inr er
theorem P_evC {o : oT_P} {L : Int} {d : Nat} {K : zK} {Km : Nat} {N j x : Int} {F : zF} {B : zB} {Fm : zF} {Bm : zB} (hx : 0 ≤ x ∧ x < 3000) (hxi : x < F 3 0 14) (hE : EV K Km N B Bm) (hS : PS N j F B Fm Bm) (hF : fresh B Bm x j 0) (h2 : sgAt Bm j 60) (hdp : 1 ≤ F 3 0 18) : zP (f_Parser_takeEvent K 0 x F B) (zbind (f_M_chord Km Fm Bm) (fun _ F1 B1 => zbind (f_M_length Km j F1 B1) (fun _ F2 B2 => zbind (f_M_marks Km j F2 B2) (fun _ F3 B3 => f_M_item_202 o Km j F3 B3)))) (fun r F' B' _ Fm' Bm' => IPO L d N j x F B Fm Bm r F' B' Fm' Bm') := by
  have e11 := hS.1
  have k3 := hE.2.2.2.1
  have k10 := hE.2.2.2.2.1
  have k1 := hE.2.2.2.2.2.1
  have km := hE.2.2.2.2.2.2
  have ek := hS.2.1.2.1
  have jj := hS.2.1.1
  have nn := hE.1.2.1
  have h5 := h2.1
  obtain ⟨f0, f1, f2, f3, f4, f5, f6, f7⟩ := hF
  have hX0 : fX [3] x (F 3 0 15) B (zup4 B 3 0 3 x (F 3 0 15)) := fX_u fX_r (Or.inl ⟨by decide, rfl⟩)
  have hB0 := fX_B (lo := x) hX0 (by decide) (Int.le_refl _)
  have hE0 := EV_f hE hB0 (fH_r (fr := 0))
  have hS0 := PS_f hS hB0 (fH_r (fr := 0))
  have hS1 := PS_step hE0 hS0 (by first | decide | omega)
  have pb := hS0.2.2.2.2.2.2.2
  unfold f_Parser_takeEvent f_Parser_takeEvent_26 f_Parser_takeChord f_M_chord
  rw [if_pos ⟨(by first | decide | omega), k3⟩, if_pos hx, e11, if_pos ⟨(by first | decide | omega), k10⟩, if_pos (by first | decide | omega), if_neg (by first | decide | omega), if_pos (by decide), if_pos rfl, if_pos ⟨(by first | decide | omega), k3⟩, if_pos ⟨(by first | decide | omega), k10⟩, if_pos (by first | decide | omega), if_neg (by first | decide | omega), if_pos ⟨(by first | decide | omega), k3⟩, if_pos ⟨(by first | decide | omega), k10⟩, C_adv (PS_CX hE0 hS0), hS.2.2.1]
  simp only [zb_s]
  refine zP_c (P_chord (K := K) (Km := Km) (N := N) hx (q := 6) (l := 0) (j := j + 1) (by first | decide | omega) (by first | decide | omega) (by first | decide | omega) (by first | decide | omega) hE0 hS1 ?_) (fun r F1 B1 r' Fm1 Bm1 hh => ?_)
  · rw [fX_3 hX0 (by decide) (by decide)]; exact f6
  · obtain ⟨c1, c2, c3, c4, c5⟩ := hh
    subst c1
    have a15 : (advF F (zup4 B 3 0 3 x (F 3 0 15))) 3 0 15 = F 3 0 15 := by rw [advF_o (by decide)]
    have a14 : (advF F (zup4 B 3 0 3 x (F 3 0 15))) 3 0 14 = F 3 0 14 := by rw [advF_o (by decide)]
    have a18 : (advF F (zup4 B 3 0 3 x (F 3 0 15))) 3 0 18 = F 3 0 18 := by rw [advF_o (by decide)]
    rw [a15] at c4 c5
    rw [a14, a18] at c5
    have hB1 := fX_B (lo := x) c4 (by decide) (Int.le_refl _)
    have hX01 : fX [2, 3, 6, 7] x (F 3 0 15) B B1 := fX_t (fX_m hX0 (by decide) (Int.le_refl _)) (fX_m c4 (by decide) (Int.le_refl _))
    rcases c5 with ⟨rfl, n, n1, n2, n3, n4, n5, n6, n7, n8, n9, n10, n11⟩ | ⟨rfl, er⟩
    · rw [if_pos (show r32 1 by decide), if_neg (show ¬ (1 : Int) = 0 by decide)]
      have hE1 := EV_f hE0 hB1 (fH_r (fr := 0))
      refine zP_m (P_tail0 (o := o) (fr := j) hx (by first | decide | omega) hE1 n4 ?_ (by first | decide | omega)) (fun r F' B' r' Fm' Bm' hh => ?_)
      · rw [fX_3 c4 (by decide) (by decide), fX_3 hX0 (by decide) (by decide)]; exact f7
      · obtain ⟨g1, g2, g3, g4, g5⟩ := hh
        rw [n6] at g3
        have hXX : fX [2, 3, 6, 7] x (F 3 0 15) B B' := fX_t hX01 (fX_m g3 (by decide) (by first | decide | omega))
        have w : ∀ k, 7 ≤ k → k ≤ 11 → Bm' 14 0 k = Bm1 14 0 k := fun k _ hk => fH_k g4 k (by first | decide | omega)
        refine ⟨fF_t (fF_t (fF_a fF_r) c2) g1, fG_t (fG_t (fG_u fG_r (by decide) (by decide)) c3) g2, fX_B hXX (by decide) (Int.le_refl _), g4, ?_⟩
        rcases g5 with ⟨r1, ev⟩ | er
        · have e3 : B' 3 0 3 x = F 3 0 15 := by rw [fX_3 g3 (by decide) (by decide), fX_3 c4 (by decide) (by decide)]; simp [zup4_v]
          have e6 : B' 3 0 6 x = n := by rw [fX_3 g3 (by decide) (by decide), n5]; omega
          refine Or.inl ⟨r1, EVT_OKI (EV_f hE1 (fX_B (lo := x) g3 (by decide) (Int.le_refl _)) g4) ev (by first | decide | omega) (by first | decide | omega) (by first | decide | omega) (by first | decide | omega) hxi ?_ ?_ e3 ?_ (by first | decide | omega) (by first | decide | omega) ?_⟩
          · rw [fX_3 hXX (by decide) (by decide)]; exact f0
          · rw [fX_3 hXX (by decide) (by decide), w 8 (by decide) (by decide)]; exact f1
          · rw [fX_3 hXX (by decide) (by decide)]; exact f5
          · refine Or.inr (Or.inr ⟨?_, (by first | decide | omega), ?_, ?_⟩)
            · unfold sgAt at *
              rw [w 7 (by decide) (by decide), w 9 (by decide) (by decide)]; exact h2
            · rw [e3, e6]
              refine pitR_c (pl := F 3 0 15) (ph := F 3 0 15 + n) n7 (fun k y a b c dd => ?_) (by first | decide | omega) w
              exact g3 3 0 k y (fun z => by have := z.2.2.1; simp at this; omega) (fun z => by have := z.2.2.2.2; omega)
            · rw [e6, w 7 (by decide) (by decide)]; exact n8
        · exact Or.inr er
    · rw [if_pos (show r32 0 by decide), if_pos rfl, L_lengthB (by first | decide | omega) er.2]
      simp only [zb_s]
      rw [L_marksB km (by first | decide | omega) er.2]
      simp only [zb_s]
      rw [L_202 (by first | decide | omega)]
      exact zP_s ⟨fF_t (fF_a fF_r) c2, fG_t (fG_u fG_r (by decide) (by decide)) c3, fX_B hX01 (by decide) (Int.le_refl _), fH_u (fH_u (fH_u (fH_u fH_r (by decide) (by decide) (Int.le_refl _)) (by decide) (by decide) (Int.le_refl _)) (by decide) (by decide) (Int.le_refl _)) (by decide) (by decide) (Int.le_refl _), Or.inr ⟨rfl, er⟩⟩
theorem P_evR {o : oT_P} {L : Int} {d : Nat} {K : zK} {Km : Nat} {N j x : Int} {F : zF} {B : zB} {Fm : zF} {Bm : zB} (hx : 0 ≤ x ∧ x < 3000) (hxi : x < F 3 0 14) (hE : EV K Km N B Bm) (hS : PS N j F B Fm Bm) (hF : fresh B Bm x j 0) (h2 : wdAt Bm j 114) (hdp : 1 ≤ F 3 0 18) : zP (f_Parser_takeEvent K 0 x F B) (zbind (f_M_length Km j (zup3 Fm 14 0 16 (j + 1)) (zup4 Bm 14 0 34 j 0)) (fun _ F2 B2 => f_M_item_202 o Km j F2 B2)) (fun r F' B' _ Fm' Bm' => IPO L d N j x F B Fm Bm r F' B' Fm' Bm') := by
  have e11 := hS.1
  have k3 := hE.2.2.2.1
  have k10 := hE.2.2.2.2.1
  have ek := hS.2.1.2.1
  have jj := hS.2.1.1
  have nn := hE.1.2.1
  have h4 := h2.1
  obtain ⟨f0, f1, f2, f3, f4, f5, f6, f7⟩ := hF
  have hX0 : fX [3] x (F 3 0 15) B (zup4 B 3 0 3 x (F 3 0 15)) := fX_u fX_r (Or.inl ⟨by decide, rfl⟩)
  have hB0 := fX_B (lo := x) hX0 (by decide) (Int.le_refl _)
  have hE0 := EV_f hE hB0 (fH_r (fr := 0))
  have hS0 := PS_f hS hB0 (fH_r (fr := 0))
  have hS1 := PS_step hE0 hS0 (by first | decide | omega)
  have hH1 : fH j Bm (zup4 Bm 14 0 34 j 0) := fH_u fH_r (by decide) (by decide) (Int.le_refl _)
  have pb := hS0.2.2.2.2.2.2.2
  unfold f_Parser_takeEvent f_Parser_takeEvent_26
  rw [if_pos ⟨(by first | decide | omega), k3⟩, if_pos hx, e11, if_pos ⟨(by first | decide | omega), k10⟩, if_pos (by first | decide | omega), if_pos (by first | decide | omega), if_pos (by decide), if_neg (by decide), if_pos ⟨(by first | decide | omega), k3⟩, if_pos ⟨(by first | decide | omega), k10⟩, C_adv (PS_CX hE0 hS0)]
  simp only [zb_s]
  have hE1 := EV_f hE0 (fB_r (lo := 0) (pl := 0)) hH1
  refine zP_m (P_tail1 (o := o) (fr := j) hx (by first | decide | omega) hE1 (PS_f hS1 (fB_r (lo := 0) (pl := 0)) hH1) ?_ (by simp [zup4_v]) (by rw [advF_o (by decide)]; exact hdp)) (fun r F' B' r' Fm' Bm' hh => ?_)
  · rw [fX_3 hX0 (by decide) (by decide)]; exact f7
  · obtain ⟨g1, g2, g3, g4, g5⟩ := hh
    have a15 : (advF F (zup4 B 3 0 3 x (F 3 0 15))) 3 0 15 = F 3 0 15 := by rw [advF_o (by decide)]
    have a14 : (advF F (zup4 B 3 0 3 x (F 3 0 15))) 3 0 14 = F 3 0 14 := by rw [advF_o (by decide)]
    have a18 : (advF F (zup4 B 3 0 3 x (F 3 0 15))) 3 0 18 = F 3 0 18 := by rw [advF_o (by decide)]
    rw [a15] at g3
    have hXX : fX [2, 3, 7] x (F 3 0 15) B B' := fX_t (fX_m hX0 (by decide) (Int.le_refl _)) (fX_m g3 (by decide) (Int.le_refl _))
    have g4' := fH_t hH1 g4
    have w : ∀ k, 7 ≤ k → k ≤ 11 → Bm' 14 0 k = Bm 14 0 k := fun k _ hk => fH_k g4' k (by first | decide | omega)
    refine ⟨fF_t (fF_a fF_r) g1, fG_t (fG_u fG_r (by decide) (by decide)) g2, fX_B hXX (by decide) (Int.le_refl _), g4', ?_⟩
    rcases g5 with ⟨r1, ev⟩ | er
    · have e3 : B' 3 0 3 x = F 3 0 15 := by rw [fX_3 g3 (by decide) (by decide)]; simp [zup4_v]
      have e6 : B' 3 0 6 x = 0 := by rw [fX_3 hXX (by decide) (by decide)]; exact f6
      refine Or.inl ⟨r1, EVT_OKI (EV_f hE1 (fX_B (lo := x) g3 (by decide) (Int.le_refl _)) g4) ev (by first | decide | omega) a14 (by first | decide | omega) a18 hxi ?_ ?_ e3 ?_ (by first | decide | omega) (by first | decide | omega) (Or.inl ⟨?_, e6⟩)⟩
      · rw [fX_3 hXX (by decide) (by decide)]; exact f0
      · rw [fX_3 hXX (by decide) (by decide), w 8 (by decide) (by decide)]; exact f1
      · rw [fX_3 hXX (by decide) (by decide)]; exact f5
      · unfold wdAt at *
        rw [w 7 (by decide) (by decide), w 11 (by decide) (by decide)]; exact h2
    · exact Or.inr er
end
end
section
section
/-! ===== items one behind the other, on both sides ===== -/
/-- the lets told so far -/
def LT (L : Int) (F : zF) (B : zB) (Fm : zF) (Bm : zB) : Prop := F 3 0 16 = L ∧ Fm 14 0 27 = L ∧ (0 ≤ L ∧ L ≤ 6) ∧ ∀ q, 0 ≤ q → q < L → B 3 0 12 q = Bm 14 0 25 q ∧ r64 (B 3 0 12 q) ∧ 0 ≤ B 3 0 13 q ∧ B 3 0 13 q < 3000
/-- the class's rows change at items from lo on, at pitches from pl on, and at one cell more -/
def fK (k0 : Nat) (x0 lo pl : Int) (B B' : zB) : Prop := ∀ c i k y, ¬ (c = 3 ∧ i = 0 ∧ k ≤ 7 ∧ lo ≤ y) → ¬ (c = 3 ∧ i = 0 ∧ 8 ≤ k ∧ k ≤ 10 ∧ pl ≤ y) → ¬ (c = 3 ∧ i = 0 ∧ k = k0 ∧ y = x0) → B' c i k y = B c i k y
def fJ (fr j : Int) (B B' : zB) : Prop := ∀ c i k x, ¬ (c = 14 ∧ i = 0 ∧ 30 ≤ k ∧ k ≤ 34 ∧ j ≤ x) → ¬ (c = 14 ∧ i = 0 ∧ k = 30 ∧ x = fr) → B' c i k x = B c i k x
theorem fK_t {k0 : Nat} {x0 lo pl : Int} {B B' B'' : zB} (h : fK k0 x0 lo pl B B') (h' : fK k0 x0 lo pl B' B'') : fK k0 x0 lo pl B B'' := fun c i k y a b d => by rw [h' c i k y a b d, h c i k y a b d]
theorem fK_r {k0 : Nat} {x0 lo pl : Int} {B : zB} : fK k0 x0 lo pl B B := fun _ _ _ _ _ _ _ => rfl
theorem fK_B {k0 : Nat} {x0 lo pl lo' pl' : Int} {B B' : zB} (h : fB lo' pl' B B') (h1 : lo ≤ lo') (h2 : pl ≤ pl') : fK k0 x0 lo pl B B' := fun c i k y a b _ => h c i k y (fun z => a ⟨z.1, z.2.1, z.2.2.1, (by first | decide | omega)⟩) (fun z => b ⟨z.1, z.2.1, z.2.2.1, z.2.2.2.1, (by first | decide | omega)⟩)
theorem fK_K {k0 k1 : Nat} {x0 x1 lo pl lo' pl' : Int} {B B' : zB} (h : fK k1 x1 lo' pl' B B') (h1 : lo ≤ lo') (h2 : pl ≤ pl') (h3 : k1 = k0 ∧ x1 = x0 ∨ k1 ≤ 7 ∧ lo ≤ x1) : fK k0 x0 lo pl B B' := fun c i k y a b d => h c i k y (fun z => a ⟨z.1, z.2.1, z.2.2.1, (by first | decide | omega)⟩) (fun z => b ⟨z.1, z.2.1, z.2.2.1, z.2.2.2.1, (by first | decide | omega)⟩) (fun z => by
  rcases h3 with q | q
  · exact d ⟨z.1, z.2.1, z.2.2.1.trans q.1, z.2.2.2.trans q.2⟩
  · exact a ⟨z.1, z.2.1, by rw [z.2.2.1]; exact q.1, by rw [z.2.2.2]; exact q.2⟩)
theorem fK_c {k0 : Nat} {x0 lo pl v : Int} {B B' : zB} (h : fK k0 x0 lo pl B B') : fK k0 x0 lo pl B (zup4 B' 3 0 k0 x0 v) := fun c i k y a b d => by
  rw [zup4_v, if_neg d]; exact h c i k y a b d
theorem fK_u {k0 k : Nat} {x0 lo pl x v : Int} {B B' : zB} (h : fK k0 x0 lo pl B B') (hk : k ≤ 7) (hx : lo ≤ x) : fK k0 x0 lo pl B (zup4 B' 3 0 k x v) := fun c i q y a b d => by
  rw [zup4_v, if_neg]
  · exact h c i q y a b d
  · rintro ⟨rfl, rfl, rfl, rfl⟩
    exact a ⟨rfl, rfl, hk, hx⟩
theorem fK_10 {k0 : Nat} {x0 lo pl : Int} {B B' : zB} (h : fK k0 x0 lo pl B B') (k : Nat) : B' 10 0 k = B 10 0 k := by
  funext x; exact h 10 0 k x (fun z => absurd z.1 (by decide)) (fun z => absurd z.1 (by decide)) (fun z => absurd z.1 (by decide))
theorem fJ_t {fr j : Int} {B B' B'' : zB} (h : fJ fr j B B') (h' : fJ fr j B' B'') : fJ fr j B B'' := fun c i k x a b => by rw [h' c i k x a b, h c i k x a b]
theorem fJ_H {fr j j' : Int} {B B' : zB} (h : fH j' B B') (h1 : j ≤ j') : fJ fr j B B' := fun c i k x a _ => h c i k x (fun z => a ⟨z.1, z.2.1, z.2.2.1, z.2.2.2.1, (by first | decide | omega)⟩)
theorem fJ_m {fr j j' : Int} {B B' : zB} (h : fJ fr j' B B') (h1 : j ≤ j') : fJ fr j B B' := fun c i k x a b => h c i k x (fun z => a ⟨z.1, z.2.1, z.2.2.1, z.2.2.2.1, (by first | decide | omega)⟩) b
theorem fJ_k {fr j : Int} {B B' : zB} (h : fJ fr j B B') (k : Nat) (hk : k ≤ 29) : B' 14 0 k = B 14 0 k := by
  funext x; exact h 14 0 k x (fun z => by have := z.2.2.1; omega) (fun z => by have := z.2.2.1; omega)
theorem fJ_fH {fr j : Int} {B B' : zB} (h : fJ fr j B B') (h1 : fr ≤ j) : fH fr B B' := fun c i k x a => h c i k x (fun z => a ⟨z.1, z.2.1, z.2.2.1, z.2.2.2.1, (by first | decide | omega)⟩) (fun z => a ⟨z.1, z.2.1, (by first | decide | omega), (by first | decide | omega), (by first | decide | omega)⟩)
theorem EV_k {K : zK} {Km : Nat} {N x0 lo pl fr j : Int} {k0 : Nat} {B B' Bm Bm' : zB} (h : EV K Km N B Bm) (hB : fK k0 x0 lo pl B B') (hm : fJ fr j Bm Bm') : EV K Km N B' Bm' := EV_B h (fK_10 hB) (fun k hk => fJ_k hm k (by first | decide | omega))
theorem PS_k {N j0 x0 lo pl fr j : Int} {k0 : Nat} {F : zF} {B B' : zB} {Fm : zF} {Bm Bm' : zB} (h : PS N j0 F B Fm Bm) (hB : fK k0 x0 lo pl B B') (hm : fJ fr j Bm Bm') : PS N j0 F B' Fm Bm' := PS_B h (fK_10 hB) (fun k hk => fJ_k hm k (by first | decide | omega))
theorem LT_k {L x0 lo pl fr j : Int} {k0 : Nat} {F F' : zF} {B B' : zB} {Fm Fm' : zF} {Bm Bm' : zB} (h : LT L F B Fm Bm) (hF : fF F F') (hG : fG Fm Fm') (hB : fK k0 x0 lo pl B B') (hk : k0 ≤ 7) (hm : fJ fr j Bm Bm') : LT L F' B' Fm' Bm' := by
  obtain ⟨a, b, c, e⟩ := h
  refine ⟨?_, ?_, c, fun q q0 q1 => ?_⟩
  · rw [hF 3 0 16 (by decide) (by decide)]; exact a
  · rw [hG 14 0 27 (by decide)]; exact b
  · have r : ∀ k, 11 ≤ k → B' 3 0 k q = B 3 0 k q := fun k h11 => hB 3 0 k q (fun z => by have := z.2.2.1; omega) (fun z => by have := z.2.2.2.1; omega) (fun z => by have := z.2.2.1; omega)
    rw [r 12 (by decide), r 13 (by decide), fJ_k hm 25 (by decide)]
    exact e q q0 q1
theorem fB_K {lo pl : Int} {B B' : zB} (h : fB lo pl B B') : fK 0 (lo) lo pl B B' := fK_B h (Int.le_refl _) (Int.le_refl _)
theorem newB_k {k0 : Nat} {x0 lo pl x s p : Int} {B B' : zB} (h : fK k0 x0 lo pl B B') (hx : lo ≤ x) : fK k0 x0 lo pl B (newB B' x s p) := fK_u (fK_u (fK_u (fK_u (fK_u (fK_u (fK_u (fK_u h (by decide) hx) (by decide) hx) (by decide) hx) (by decide) hx) (by decide) hx) (by decide) hx) (by decide) hx) (by decide) hx
/-- an item of level d is taken alike -/
def ItemSim (L : Int) (K : zK) (Km : Nat) (N : Int) (d : Nat) (oC : Int → Int → zF → zB → zO) (oM : zF → zB → zO) : Prop := ∀ {x j : Int} {F : zF} {B : zB} {Fm : zF} {Bm : zB}, 0 ≤ x → x < 3000 → x + 1 = F 3 0 14 → F 3 0 14 ≤ j + 1 → EV K Km N B Bm → PS N j F B Fm Bm → F 3 0 18 + d = 8 → 1 ≤ F 3 0 18 → LT L F B Fm Bm → fresh B Bm x j (isrt (F 10 0 0) (F 10 0 2)) → ¬ isrt (F 10 0 0) (F 10 0 2) = -1 → zP (oC 0 x F B) (oM Fm Bm) (fun r F' B' _ Fm' Bm' => IPO L d N j x F B Fm Bm r F' B' Fm' Bm')
/-- where no item begins the reference tells it -/
def ItemBad (K : zK) (Km : Nat) (N : Int) (oM : zF → zB → zO) : Prop := ∀ {j : Int} {F : zF} {B : zB} {Fm : zF} {Bm : zB}, EV K Km N B Bm → PS N j F B Fm Bm → isrt (F 10 0 0) (F 10 0 2) = -1 → ∃ r, oM Fm Bm = some (r, errM Fm Bm (wr Bm j), zup4 Bm 14 0 31 j j)
/-- items are taken up to the closing sign, and the sign too -/
def OKM (L : Int) (d : Nat) (N j fr x0 : Int) (k0 : Nat) (F : zF) (F' : zF) (B' : zB) (Fm' : zF) (Bm' : zB) : Prop := ∃ j' n, j < j' ∧ PS N j' F' B' Fm' Bm' ∧ Bm' 14 0 30 fr = j' - 1 ∧ F' 3 0 18 = F 3 0 18 - 1 ∧ (F 3 0 14 ≤ F' 3 0 14 ∧ F' 3 0 14 - F 3 0 14 ≤ j' - 1 - j) ∧ F 3 0 15 ≤ F' 3 0 15 ∧ SLR L d n (B' 3 0 k0 x0) j (j' - 1) (F 3 0 14) (F' 3 0 14) (F 3 0 15) (F' 3 0 15) B' Bm'
theorem refF_18 {F : zF} {s v : Int} (Fm : zF) : ERR (refF F s) Fm → ERR (refF (zup3 F 3 0 18 v) s) Fm := by
  unfold ERR refF
  simp only [zup3_v]
  simp
theorem isrt_c {k v c : Int} (hc : c = 125 ∨ c = 93) (h5 : k = 5) (hv : v = c) : isrt k v = -1 := by
  unfold isrt
  subst h5
  rcases hc with rfl | rfl <;> subst hv <;> decide
theorem isrt_m {k v : Int} (h5 : k = 5) (hv : ¬ mkv v = 0) : isrt k v = -1 ∧ ¬ v = 125 ∧ ¬ v = 93 := by
  have h : v = 126 ∨ v = 40 ∨ v = 41 ∨ v = 39 ∨ v = 94 ∨ v = 45 ∨ v = 37 := by
    unfold mkv at hv
    by_cases a : v = 126
    · exact Or.inl a
    · by_cases a2 : v = 40
      · omega
      · by_cases a3 : v = 41
        · omega
        · by_cases a4 : v = 39
          · omega
          · by_cases a5 : v = 94
            · omega
            · by_cases a6 : v = 45
              · omega
              · by_cases a7 : v = 37
                · omega
                · simp [a, a2, a3, a4, a5, a6, a7] at hv
  subst h5
  rcases h with rfl | rfl | rfl | rfl | rfl | rfl | rfl <;> decide
theorem SLR_0 {L : Int} {d : Nat} {j lo hi pl ph : Int} {B Bm : zB} : SLR L d 0 (-1) j j lo hi pl ph B Bm := fun _ _ _ _ => ⟨rfl, rfl⟩
theorem SLR_1 {L : Int} {d n : Nat} {x j j1 e hi hi' pl ph ph' fr : Int} {B1 Bm1 B2 Bm2 : zB} (hx : 0 ≤ x ∧ x < 3000) (hj : j < j1) (he : j1 ≤ e) (h31 : Bm1 14 0 31 j = j1) (hI : SIR L d x j hi pl ph j1 B1 Bm1) (hR : SLR L d n (B2 3 0 5 x) j1 e hi hi' ph ph' B2 Bm2) (hK : fK 5 x hi ph B1 B2) (hJ : fJ fr j1 Bm1 Bm2) (hf : fr < j) (h1 : x < hi) (h2 : hi ≤ hi') (h3 : pl ≤ ph) (h4 : ph ≤ ph') : SLR L d (n + 1) x j e x hi' pl ph' B2 Bm2 := by
  intro Bx By a b
  have e31 : By 14 0 31 j = j1 := by
    rw [b.1 31 j (by decide) (by decide) (Int.le_refl _) (by first | decide | omega), hJ 14 0 31 j (fun z => by have := z.2.2.2.2; omega) (fun z => absurd z.2.2.1 (by decide))]; exact h31
  have e5 : Bx 3 0 5 x = B2 3 0 5 x := a.1 5 x (by decide) (Int.le_refl _) (by first | decide | omega) (fun z => by have := z.2; omega)
  have aK : agB L x hi pl ph x B1 B2 := ⟨fun k y p q r s => hK 3 0 k y (fun z => by have := z.2.2.2; omega) (fun z => by have := z.2.2.1; omega) (fun z => s ⟨z.2.2.1, z.2.2.2⟩), fun k y p q r s => hK 3 0 k y (fun z => by have := z.2.2.1; omega) (fun z => by have := z.2.2.2.2; omega) (fun z => by have := z.2.2.1; omega), fun q p r => hK 3 0 13 q (fun z => absurd z.2.2.1 (by decide)) (fun z => absurd z.2.2.2.1 (by decide)) (fun z => absurd z.2.2.1 (by decide))⟩
  have aJ : agM L j j1 Bm1 Bm2 := ⟨fun k y p q r s => hJ 14 0 k y (fun z => by have := z.2.2.2.2; omega) (fun z => by have := z.2.2.2; omega), fun k p q => fJ_k hJ k (by first | decide | omega), fun q p r => hJ 14 0 25 q (fun z => absurd z.2.2.1 (by decide)) (fun z => absurd z.2.2.1 (by decide))⟩
  have ax : agB L x hi pl ph x B2 Bx := ⟨fun k y p q r s => a.1 k y p q (by first | decide | omega) (fun z => by have := z.2; omega), fun k y p q r s => a.2.1 k y p q (by first | decide | omega) (by first | decide | omega), a.2.2⟩
  refine ⟨hx, ?_, hI Bx By (agB_t aK ax) (agM_t aJ (agM_m b (Int.le_refl _) he)), ?_⟩
  · rw [e31]; omega
  · rw [e31, e5]
    exact hR Bx By (agB_m a (by first | decide | omega) (Int.le_refl _) (by first | decide | omega) (Int.le_refl _) (Or.inl rfl)) (agM_m b (by first | decide | omega) (Int.le_refl _))
end
end
section
section
/-! ===== the music of a block, on both sides ===== -/
theorem zup3_comm {F : zF} {c c' k k' : Nat} {i i' v v' : Int} (h : ¬ (c = c' ∧ i = i' ∧ k = k')) : zup3 (zup3 F c i k v) c' i' k' v' = zup3 (zup3 F c' i' k' v') c i k v := by
  funext a b d
  simp only [zup3_v]
  by_cases p : a = c' ∧ b = i' ∧ d = k'
  · by_cases q : a = c ∧ b = i ∧ d = k
    · exact absurd ⟨q.1.symm.trans p.1, q.2.1.symm.trans p.2.1, q.2.2.symm.trans p.2.2⟩ h
    · rw [if_pos p, if_neg q, if_pos p]
  · rw [if_neg p]
    by_cases q : a = c ∧ b = i ∧ d = k
    · rw [if_pos q, if_pos q]
    · rw [if_neg q, if_neg q, if_neg p]
theorem DEL_CX {K : zK} {Km : Nat} {N : Int} {F : zF} {B : zB} {Fm : zF} {Bm : zB} (hE : EV K Km N B Bm) (h : DEL N F B Fm Bm) : CX K F B := by
  obtain ⟨⟨n0, n1, hT⟩, hW, h5, k3, k10, k1, km⟩ := hE
  obtain ⟨e11, hw, ⟨j, ⟨j0, j1⟩, hk, hp, hv, hs, hx⟩, _⟩ := h
  obtain ⟨a1, a2, a3, a4, a5, a6, a7, a8, a9, a10, a11⟩ := hT j j0 j1
  refine ⟨k3, k10, e11, (by first | decide | omega), (by first | decide | omega), ?_, h5, k1⟩
  rw [hx]
  split <;> omega
theorem DEL_ERR {K : zK} {Km : Nat} {N v : Int} {F : zF} {B : zB} {Fm : zF} {Bm : zB} (hE : EV K Km N B Bm) (h : DEL N F B Fm Bm) : ERR (refF (zup3 F 3 0 18 v) 2) Fm := by
  obtain ⟨e11, hw, ⟨j, ⟨j0, j1⟩, _, hp, _⟩, h5, hm, h17, h18⟩ := h
  have tp := (hE.1.2.2 j j0 j1).2.2.2.2.2.2.2.2.2.1
  unfold ERR refF bad
  simp only [zup3_v]
  simp
  rw [h17, h18, if_neg (by first | decide | omega)]
  omega
theorem C_mus0 {o : oT_CP} {K : zK} {m : Nat} {i last par : Int} {F : zF} {B : zB} (hX : CX K F B) (hi : r32 i) (hs : isrt (F 10 0 0) (F 10 0 2) = -1) : f_Parser_takeMusic_4 o K (m + 1) i last 0 par F B = some (1, F, B) := by
  unfold f_Parser_takeMusic_4
  rw [if_pos hi]
  by_cases a : 3000 ≤ i
  · rw [if_pos a]
  · rw [if_neg a, if_pos ⟨(by first | decide | omega), hX.1⟩, C_itemSort hX]
    simp only [zb_s]
    rw [hs, if_pos (by decide), if_pos rfl]
theorem newB_at {B : zB} {x s p : Int} : (newB B x s p) 3 0 0 x = s ∧ (newB B x s p) 3 0 1 x = p ∧ (newB B x s p) 3 0 2 x = 0 ∧ (newB B x s p) 3 0 3 x = -1 ∧ (newB B x s p) 3 0 4 x = -1 ∧ (newB B x s p) 3 0 5 x = -1 ∧ (newB B x s p) 3 0 6 x = 0 ∧ (newB B x s p) 3 0 7 x = 0 := by
  unfold newB
  simp [zup4_v]
theorem P_music {L : Int} {d : Nat} {K : zK} {Km : Nat} {N c fr : Int} {o : oT_CP} {oM : zF → zB → zO} {lp : Nat → zF → zB → zO} {kc : Int → zF → zB → zO} (hI : ItemSim L K Km N d o.2.2.1 oM) (hB : ItemBad K Km N oM) (hc : c = 125 ∨ c = 93) (hfr : 0 ≤ fr) (hlp : ∀ n F B, lp (n + 1) F B = zbind (f_M_good Km F B) (fun r2 F2 B2 => if r32 r2 then (if r2 = 0 then zbind (f_M_closing Km fr c F2 B2) (fun _ F9 B9 => some (0, F9, B9)) else zbind (f_M_isSign Km c F2 B2) (fun r5 F5 B5 => if r32 r5 then (if r5 = 0 then zbind (oM F5 B5) (fun _ F8 B8 => lp n F8 B8) else zbind (f_M_closing Km fr c F5 B5) (fun _ F9 B9 => some (0, F9, B9))) else none)) else none)) (hk0 : ∀ F B, kc 0 F B = some (0, F, B)) (hk1 : ∀ F B, CX K F B → kc 1 F B = if sgn F c = 0 then some (0, refF (zup3 F 3 0 18 (F 3 0 18 - 1)) 2, B) else some (1, advF (zup3 F 3 0 18 (F 3 0 18 - 1)) B, B)) : ∀ {q m m' : Nat} {i last par j x0 : Int} {k0 : Nat} {F : zF} {B : zB} {Fm : zF} {Bm : zB}, N - j < q → q < m → q < m' → 0 ≤ i → i ≤ j → fr < j → (last = -1 ∧ k0 = 4 ∧ x0 = par ∨ last = x0 ∧ k0 = 5) → 0 ≤ x0 → x0 < F 3 0 14 → (0 ≤ par ∧ par < 3000) → F 3 0 14 ≤ j → EV K Km N B Bm → PS N j F B Fm Bm → F 3 0 18 + d = 8 → 1 ≤ F 3 0 18 → LT L F B Fm Bm → B 3 0 k0 x0 = -1 → zP (zbind (f_Parser_takeMusic_4 o K m i last 0 par F B) kc) (lp m' Fm Bm) (fun r F' B' _ Fm' Bm' => fF F F' ∧ fG Fm Fm' ∧ fK k0 x0 (F 3 0 14) (F 3 0 15) B B' ∧ fJ fr j Bm Bm' ∧ (r = 1 ∧ OKM L d N j fr x0 k0 F F' B' Fm' Bm' ∨ r = 0 ∧ ERR F' Fm')) := by
  have rc : r32 c := by omega
  -- the reference's loop in a bad state
  have lpB : ∀ {n : Nat} {F : zF} {B : zB}, 0 < n → bad F → lp n F B = some (0, F, B) := by
    intro n F B hn hb
    obtain ⟨n, rfl⟩ : ∃ y, n = y + 1 := ⟨n - 1, (by first | decide | omega)⟩
    rw [hlp, L_goodB hb]
    simp only [zb_s]
    rw [if_pos (by decide), if_pos trivial, L_closingB hb]
    rfl
  intro q
  induction q with
  | zero =>
    intro m m' i last par j x0 k0 F B Fm Bm hN _ _ _ _ _ _ _ _ _ _ _ hS
    have := hS.2.1.1
    omega
  | succ q ih =>
    intro m m' i last par j x0 k0 F B Fm Bm hN hm hm' i0 i1 hfj hl x00 x01 hpar hit hE hS hd hd1 hLT hcell
    obtain ⟨m, rfl⟩ : ∃ y, m = y + 1 := ⟨m - 1, (by first | decide | omega)⟩
    obtain ⟨m', rfl⟩ : ∃ y, m' = y + 1 := ⟨m' - 1, (by first | decide | omega)⟩
    have hg := hS.2.2.2.1
    have hX := PS_CX hE hS
    have hM := PS_MX hE hS
    have jj := hS.2.1.1
    have nn := hE.1.2.1
    have ek := hS.2.1.2.1
    have ep := hS.2.1.2.2.1
    have ev := hS.2.1.2.2.2.1
    have hdd := hS.2.2.2.2.2.1
    have k3 := hE.2.2.2.1
    have tk := hE.1.2.2 j jj.1 jj.2
    have s := sgm_r Bm j c
    by_cases hs : isrt (F 10 0 0) (F 10 0 2) = -1
    · rw [C_mus0 hX (by first | decide | omega) hs, hlp, L_good hg]
      simp only [zb_s]
      rw [hk1 F B hX, PS_sg hE hS, if_pos (show r32 1 by decide), if_neg (show ¬ (1 : Int) = 0 by decide), L_isSign hM rc]
      simp only [zb_s]
      rw [if_pos (show r32 (sgm Bm j c) by omega)]
      by_cases z : sgm Bm j c = 0
      · obtain ⟨r, e⟩ := hB hE hS hs
        have er := PS_err2 hE hS
        rw [if_pos z, if_pos z, e]
        simp only [zb_s]
        rw [lpB (by first | decide | omega) er.2]
        exact zP_s ⟨fF_e (fF_u fF_r (by decide)), fG_e fG_r, fK_r, fJ_H (fH_u fH_r (by decide) (by decide) (Int.le_refl _)) (Int.le_refl _), Or.inr ⟨rfl, refF_18 _ er⟩⟩
      · have z' := Decidable.not_not.mp (mt sgm_0.mpr z)
        rw [if_neg z, if_neg z, L_closing hg hM rc (by first | decide | omega), if_neg z]
        simp only [zb_s]
        have hS1 := PS_step hE (PS_d (d := F 3 0 18 - 1) hS (by first | decide | omega) (PS_pw hS hd1)) (by first | decide | omega)
        have e19 : Fm 14 0 19 = F 3 0 18 := hdd.1.symm
        have hJ : fJ fr j Bm (zup4 Bm 14 0 30 fr j) := fun c' i' k' x' a b => by rw [zup4_v, if_neg (fun w => b w)]
        rw [e19, zup3_comm (by decide)]
        refine zP_s ⟨fF_a (fF_u fF_r (by decide)), fG_u (fG_u fG_r (by decide) (by decide)) (by decide) (by decide), fK_r, hJ, Or.inl ⟨rfl, j + 1, 0, (by first | decide | omega), PS_k hS1 (fK_r (k0 := 0) (x0 := 0) (lo := 0) (pl := 0)) hJ, ?_, ?_, ?_, ?_, ?_⟩⟩
        · simp [zup4_v]
        · rw [advF_o (by decide)]; simp [zup3_v]
        · rw [advF_o (by decide)]; simp [zup3_v]
        · rw [advF_o (by decide)]; simp [zup3_v]
        · rw [hcell, show j + 1 - 1 = j by omega]; exact SLR_0
    · -- an item
      have hjN : j < N := by
        have : ¬ j = N := by
          intro w
          have k0' := tk.2.2.2.1.mpr w
          apply hs
          unfold isrt
          rw [ek, k0']
          rfl
        omega
      have z : sgm Bm j c = 0 := by
        refine sgm_0.mpr (fun w => hs (isrt_c hc (ek.trans w.1) ?_))
        rw [ev, (tk.2.2.2.2.2.2.2.1 w.1).1]; exact w.2
      have sr := isrt_r (F 10 0 0) (F 10 0 2)
      have hx14 : 0 ≤ F 3 0 14 ∧ F 3 0 14 < 3000 := by omega
      -- the class's world when the item is made
      have hK2 : fK k0 x0 (F 3 0 14) (F 3 0 15) B (zup4 (newB B (F 3 0 14) (isrt (F 10 0 0) (F 10 0 2)) (F 10 0 1)) 3 0 k0 x0 (F 3 0 14)) := fK_c (newB_k fK_r (Int.le_refl _))
      have hcls : f_Parser_takeMusic_4 o K (m + 1) i last 0 par F B = zbind (o.2.2.1 0 (F 3 0 14) (zup3 F 3 0 14 (F 3 0 14 + 1)) (zup4 (newB B (F 3 0 14) (isrt (F 10 0 0) (F 10 0 2)) (F 10 0 1)) 3 0 k0 x0 (F 3 0 14))) (fun r15 F15 B15 => if r32 r15 then (if r15 = 0 then some (0, F15, B15) else f_Parser_takeMusic_4 o K m (i + 1) (F 3 0 14) 0 par F15 B15) else none) := by
        rw [f_Parser_takeMusic_4]
        rw [if_pos (show r32 i by omega), if_neg (show ¬ 3000 ≤ i by omega), if_pos ⟨Int.le_refl _, k3⟩, C_itemSort hX]
        simp only [zb_s]
        rw [if_pos (show r32 (isrt (F 10 0 0) (F 10 0 2)) by omega), if_neg hs, C_newItem hX hx14]
        simp only [zb_s]
        unfold f_Parser_takeMusic_57
        rcases hl with ⟨rfl, rfl, rfl⟩ | ⟨rfl, rfl⟩
        · rw [if_pos (show r32 (-1) by decide), if_pos rfl, if_pos hpar, if_pos ⟨Int.le_refl _, k3⟩]
        · rw [if_pos (show r32 last by omega), if_neg (show ¬ last = -1 by omega), if_pos (show 0 ≤ last ∧ last < 3000 by omega), if_pos ⟨Int.le_refl _, k3⟩]
      have hS1 := PS_k (PS_u (k := 14) (v := F 3 0 14 + 1) hS (by decide)) hK2 (fJ_H (fr := fr) (j := j) fH_r (Int.le_refl _))
      have hE1 := EV_k hE hK2 (fJ_H (fr := fr) (j := j) fH_r (Int.le_refl _))
      have hLT1 := LT_k hLT (fF_u (k := 14) (v := F 3 0 14 + 1) fF_r (by decide)) fG_r hK2 (by first | decide | omega) (fJ_H (fr := fr) (j := j) fH_r (Int.le_refl _))
      have a10 : ∀ k, (zup3 F 3 0 14 (F 3 0 14 + 1)) 10 0 k = F 10 0 k := fun k => by simp [zup3_v]
      have a14 : (zup3 F 3 0 14 (F 3 0 14 + 1)) 3 0 14 = F 3 0 14 + 1 := by simp [zup3_v]
      have a15 : (zup3 F 3 0 14 (F 3 0 14 + 1)) 3 0 15 = F 3 0 15 := by simp [zup3_v]
      have a18 : (zup3 F 3 0 14 (F 3 0 14 + 1)) 3 0 18 = F 3 0 18 := by simp [zup3_v]
      have hfresh : fresh (zup4 (newB B (F 3 0 14) (isrt (F 10 0 0) (F 10 0 2)) (F 10 0 1)) 3 0 k0 x0 (F 3 0 14)) Bm (F 3 0 14) j (isrt (F 10 0 0) (F 10 0 2)) := by
        have g : ∀ k, (zup4 (newB B (F 3 0 14) (isrt (F 10 0 0) (F 10 0 2)) (F 10 0 1)) 3 0 k0 x0 (F 3 0 14)) 3 0 k (F 3 0 14) = (newB B (F 3 0 14) (isrt (F 10 0 0) (F 10 0 2)) (F 10 0 1)) 3 0 k (F 3 0 14) := fun k => by rw [zup4_v, if_neg (fun w => by have := w.2.2.2; omega)]
        obtain ⟨b0, b1, b2, b3, b4, b5, b6, b7⟩ := newB_at (B := B) (x := F 3 0 14) (s := isrt (F 10 0 0) (F 10 0 2)) (p := F 10 0 1)
        unfold fresh
        rw [g, g, g, g, g, g, g, g]
        exact ⟨b0, b1.trans ep, b2, b3, b4, b5, b6, b7⟩
      rw [hcls, hlp, L_good hg, zb_a]
      simp only [zb_s]
      rw [if_pos (show r32 1 by decide), if_neg (show ¬ (1 : Int) = 0 by decide), L_isSign hM rc]
      simp only [zb_s]
      rw [if_pos (show r32 (sgm Bm j c) by omega), if_pos z]
      refine zP_c (hI (x := F 3 0 14) (j := j) (F := zup3 F 3 0 14 (F 3 0 14 + 1)) hx14.1 hx14.2 a14.symm (by first | decide | omega) hE1 hS1 (by first | decide | omega) (by first | decide | omega) hLT1 (by rw [a10, a10]; exact hfresh) (by rw [a10, a10]; exact hs)) (fun r F1 B1 r' Fm1 Bm1 hh => ?_)
      obtain ⟨g1, g2, g3, g4, g5⟩ := hh
      rw [a15] at g3
      have gF : fF F F1 := fF_t (fF_u fF_r (by decide)) g1
      have gK : fK k0 x0 (F 3 0 14) (F 3 0 15) B B1 := fK_t hK2 (fK_B g3 (Int.le_refl _) (Int.le_refl _))
      have gJ : fJ fr j Bm Bm1 := fJ_H g4 (Int.le_refl _)
      have hE2 := EV_k hE gK gJ
      rcases g5 with ⟨rfl, ok | del⟩ | ⟨rfl, er⟩
      · obtain ⟨j1, y1, y2, y3, y4, y5, y6, y7, y8⟩ := ok
        rw [a14] at y5
        rw [a15] at y6 y8
        rw [a18] at y4
        rw [if_pos (show r32 1 by decide), if_neg (show ¬ (1 : Int) = 0 by decide)]
        have hLT2 := LT_k hLT gF g2 gK (by first | decide | omega) gJ
        refine zP_m (ih (m := m) (m' := m') (i := i + 1) (last := F 3 0 14) (par := par) (j := j1) (x0 := F 3 0 14) (k0 := 5) (by first | decide | omega) (by first | decide | omega) (by first | decide | omega) (by first | decide | omega) (by first | decide | omega) (by first | decide | omega) (Or.inr ⟨rfl, rfl⟩) hx14.1 (by first | decide | omega) hpar (by first | decide | omega) hE2 y2 (by first | decide | omega) (by first | decide | omega) hLT2 y7) (fun r F' B' r' Fm' Bm' hh => ?_)
        obtain ⟨w1, w2, w3, w4, w5⟩ := hh
        refine ⟨fF_t gF w1, fG_t g2 w2, fK_t gK (fK_K w3 (by first | decide | omega) (by first | decide | omega) (Or.inr ⟨by decide, Int.le_refl _⟩)), fJ_t gJ (fJ_m w4 (by first | decide | omega)), ?_⟩
        rcases w5 with ⟨rfl, j2, n, v1, v2, v3, v4, v5, v6, v7⟩ | er
        · refine Or.inl ⟨rfl, j2, n + 1, (by first | decide | omega), v2, v3, (by first | decide | omega), (by first | decide | omega), (by first | decide | omega), ?_⟩
          have ecell : B' 3 0 k0 x0 = F 3 0 14 := by
            rw [w3 3 0 k0 x0 (fun w => by have := w.2.2.2; omega) (fun w => by have := w.2.2.1; omega) (fun w => by have := w.2.2.2; omega), g3 3 0 k0 x0 (fun w => by have := w.2.2.2; omega) (fun w => by have := w.2.2.1; omega), zup4_v, if_pos ⟨rfl, rfl, rfl, rfl⟩]
          rw [ecell]
          exact SLR_1 hx14 y1 (by first | decide | omega) y3 y8 v7 w3 w4 hfj (by first | decide | omega) (by first | decide | omega) (by first | decide | omega) (by first | decide | omega)
        · exact Or.inr er
      · obtain ⟨m, rfl⟩ : ∃ y, m = y + 1 := ⟨m - 1, (by first | decide | omega)⟩
        have hX2 := DEL_CX hE2 del
        have em := isrt_m del.2.2.2.1 del.2.2.2.2.1
        rw [if_pos (show r32 1 by decide), if_neg (show ¬ (1 : Int) = 0 by decide), C_mus0 hX2 (by first | decide | omega) em.1]
        simp only [zb_s]
        have hb1 : bad Fm1 := ⟨by have := del.2.2.2.2.2.1; omega, by have := del.2.2.2.2.2.1; omega⟩
        rw [hk1 _ _ hX2, if_pos (sgn_0.mpr (fun w => by have := w.2; omega)), lpB (by first | decide | omega) hb1]
        exact zP_s ⟨fF_e (fF_u gF (by decide)), g2, gK, gJ, Or.inr ⟨rfl, DEL_ERR hE2 del⟩⟩
      · rw [if_pos (show r32 0 by decide), if_pos rfl]
        simp only [zb_s]
        rw [hk0, lpB (by first | decide | omega) er.2]
        exact zP_s ⟨gF, g2, gK, gJ, Or.inr ⟨rfl, er⟩⟩
end
end
section
section
/-! ===== blocks and fractions, on both sides ===== -/
def OKB (L : Int) (d : Nat) (N j x : Int) (F : zF) (F' : zF) (B' : zB) (Fm' : zF) (Bm' : zB) : Prop := ∃ j' n, j + 2 ≤ j' ∧ PS N j' F' B' Fm' Bm' ∧ Bm' 14 0 30 j = j' - 1 ∧ F' 3 0 18 = F 3 0 18 ∧ (F 3 0 14 ≤ F' 3 0 14 ∧ F' 3 0 14 - F 3 0 14 ≤ j' - j - 2) ∧ F 3 0 15 ≤ F' 3 0 15 ∧ SLR L (d - 1) n (B' 3 0 4 x) (j + 1) (j' - 1) (F 3 0 14) (F' 3 0 14) (F 3 0 15) (F' 3 0 15) B' Bm' ∧ 1 ≤ d
def BPO (L : Int) (d : Nat) (N j x : Int) (F : zF) (B : zB) (Fm : zF) (Bm : zB) (r : Int) (F' : zF) (B' : zB) (Fm' : zF) (Bm' : zB) : Prop := fF F F' ∧ fG Fm Fm' ∧ fK 4 x (F 3 0 14) (F 3 0 15) B B' ∧ fH j Bm Bm' ∧ (r = 1 ∧ OKB L d N j x F F' B' Fm' Bm' ∨ r = 0 ∧ ERR F' Fm')
def BlkSim (L : Int) (K : zK) (Km : Nat) (N : Int) (d : Nat) (oC : Int → Int → zF → zB → zO) (oM : zF → zB → zO) : Prop := ∀ {x j : Int} {F : zF} {B : zB} {Fm : zF} {Bm : zB}, 0 ≤ x → x < F 3 0 14 → F 3 0 14 ≤ j → EV K Km N B Bm → PS N j F B Fm Bm → F 3 0 18 + d = 8 → (F 3 0 20 = lenV (Fm 14 0 20) (Fm 14 0 21) ∧ pw2 (Fm 14 0 20) ∧ 0 ≤ Fm 14 0 21 ∧ Fm 14 0 21 ≤ 2) → LT L F B Fm Bm → B 3 0 4 x = -1 → zP (oC 0 x F B) (oM Fm Bm) (fun r F' B' _ Fm' Bm' => BPO L d N j x F B Fm Bm r F' B' Fm' Bm')
/-- a block in a bad state: nothing changes -/
def BlkBad (oM : zF → zB → zO) : Prop := ∀ {Fm : zF} {Bm : zB}, bad Fm → oM Fm Bm = some (0, Fm, Bm)
theorem L_blockB {om : oT_P} {Km : Nat} (hK : 3002 ≤ Km) : BlkBad (fun F B => fb_M_block om Km F B) := by
  intro Fm Bm hb
  obtain ⟨m, rfl⟩ : ∃ y, Km = y + 1 := ⟨Km - 1, (by first | decide | omega)⟩
  show fb_M_block om (m + 1) Fm Bm = _
  unfold fb_M_block
  rw [L_openingB hb]
  simp only [zb_s]
  unfold f_M_block_11 f_M_block_34
  rw [L_goodB hb]
  simp only [zb_s]
  rw [if_pos (by decide), if_pos trivial, L_closingB hb]
  rfl
theorem P_block {L : Int} {d : Nat} {K : zK} {Km : Nat} {N : Int} {o o' : oT_CP} {om : oT_P} (ho : ∀ l0 l1 F B, o.2.1 l0 l1 F B = fb_Parser_takeMusic o' K l0 l1 F B) (hI : ∀ d', d = d' + 1 → ItemSim L K Km N d' o'.2.2.1 om.2.1) (hB : ItemBad K Km N om.2.1) : BlkSim L K Km N d (fun l0 l1 F B => fb_Parser_takeBlock o K l0 l1 F B) (fun F B => fb_M_block om Km F B) := by
  intro x j F B Fm Bm x0 x1 hit hE hS hd hpw hLT hcell
  have hg := hS.2.2.2.1
  have hX := PS_CX hE hS
  have hM := PS_MX hE hS
  have jj := hS.2.1.1
  have nn := hE.1.2.1
  have hdd := hS.2.2.2.2.2.1
  have k3 := hE.2.2.2.1
  have k1 := hE.2.2.2.2.2.1
  have km := hE.2.2.2.2.2.2
  show zP (fb_Parser_takeBlock o K 0 x F B) (fb_M_block om Km Fm Bm) _
  unfold fb_Parser_takeBlock f_Parser_takeBlock_30 f_Parser_takeBlock_31 fb_M_block
  rw [if_pos ⟨(by first | decide | omega), k3⟩, C_takeOpening hX (by decide) hdd.2, L_opening hg hM (by decide) (by first | decide | omega), PS_sg hE hS, hM.1]
  have lpB : ∀ {F : zF} {B : zB}, bad F → f_M_block_11 om Km Km j F B = some (0, F, B) := by
    intro F B hb
    obtain ⟨m, rfl⟩ : ∃ y, Km = y + 1 := ⟨Km - 1, (by first | decide | omega)⟩
    unfold f_M_block_11 f_M_block_34
    rw [L_goodB hb]
    simp only [zb_s]
    rw [if_pos (by decide), if_pos trivial, L_closingB hb]
    rfl
  by_cases z : sgm Bm j 123 = 0
  · have er := PS_err2 hE hS
    rw [if_pos z, if_pos z]
    simp only [zb_s]
    rw [if_pos (by decide), if_pos trivial, if_pos (by decide), lpB er.2]
    exact zP_s ⟨fF_e fF_r, fG_e fG_r, fK_r, fH_r, Or.inr ⟨rfl, er⟩⟩
  · have z' := Decidable.not_not.mp (mt sgm_0.mpr z)
    rw [if_neg z, if_neg z]
    by_cases d8 : F 3 0 18 = 8
    · have er := PS_err (s := 3) (s' := 3) hE hS (by rw [if_neg (by first | decide | omega)]) (by decide)
      rw [if_pos d8, if_pos (by first | decide | omega)]
      simp only [zb_s]
      rw [if_pos (by decide), if_pos trivial, if_pos (by decide), lpB er.2]
      exact zP_s ⟨fF_e fF_r, fG_e fG_r, fK_r, fH_r, Or.inr ⟨rfl, er⟩⟩
    · rw [if_neg d8, if_neg (by first | decide | omega)]
      simp only [zb_s]
      obtain ⟨d', rfl⟩ : ∃ y, d = y + 1 := ⟨d - 1, (by first | decide | omega)⟩
      have hS1 := PS_step hE (PS_d (d := F 3 0 18 + 1) hS (by first | decide | omega) hpw) (by first | decide | omega)
      have e19 : Fm 14 0 19 = F 3 0 18 := hdd.1.symm
      rw [if_pos (show r32 1 by decide), if_neg (show ¬ (1 : Int) = 0 by decide), ho, e19]
      unfold fb_Parser_takeMusic
      have a14 : (advF (zup3 F 3 0 18 (F 3 0 18 + 1)) B) 3 0 14 = F 3 0 14 := by rw [advF_o (by decide)]; simp [zup3_v]
      have a15 : (advF (zup3 F 3 0 18 (F 3 0 18 + 1)) B) 3 0 15 = F 3 0 15 := by rw [advF_o (by decide)]; simp [zup3_v]
      have a18 : (advF (zup3 F 3 0 18 (F 3 0 18 + 1)) B) 3 0 18 = F 3 0 18 + 1 := by rw [advF_o (by decide)]; simp [zup3_v]
      have gF : fF F (advF (zup3 F 3 0 18 (F 3 0 18 + 1)) B) := fF_a (fF_u fF_r (by decide))
      have gG : fG Fm (zup3 (zup3 Fm 14 0 19 (F 3 0 18 + 1)) 14 0 16 (j + 1)) := fG_u (fG_u fG_r (by decide) (by decide)) (by decide) (by decide)
      have hLT1 := LT_k (k0 := 0) (x0 := 0) (lo := 0) (pl := 0) (fr := 0) (j := 0) hLT gF gG fK_r (by decide) (fJ_H fH_r (Int.le_refl _))
      refine zP_m (P_music (o := o') (lp := fun n F B => f_M_block_11 om Km n j F B) (c := 125) (fr := j) (hI d' rfl) hB (Or.inl rfl) jj.1 ?_ ?_ ?_ (q := 3001) (m := K.1) (m' := Km) (i := 0) (last := -1) (par := x) (j := j + 1) (x0 := x) (k0 := 4) (by first | decide | omega) (by first | decide | omega) (by first | decide | omega) (by first | decide | omega) (by first | decide | omega) (by first | decide | omega) (Or.inl ⟨rfl, rfl, rfl⟩) x0 (by first | decide | omega) (by first | decide | omega) (by first | decide | omega) hE hS1 (by first | decide | omega) (by first | decide | omega) hLT1 hcell) (fun r F' B' r' Fm' Bm' hh => ?_)
      · intro n F B
        rfl
      · intro F B
        rfl
      · intro F B hX
        show (if r32 1 then (if (1 : Int) = 0 then _ else zbind (f_Parser_takeClosing K 0 125 F B) _) else none) = _
        rw [if_pos (by decide), if_neg (by decide), C_takeClosing hX (by decide)]
        by_cases w : sgn F 125 = 0
        · rw [if_pos w]; rfl
        · rw [if_neg w]; rfl
      · obtain ⟨g1, g2, g3, g4, g5⟩ := hh
        rw [a14, a15] at g3
        refine ⟨fF_t gF g1, fG_t gG g2, g3, fJ_fH g4 (by first | decide | omega), ?_⟩
        rcases g5 with ⟨rfl, j', n, v1, v2, v3, v4, v5, v6, v7⟩ | er
        · rw [a14, a15] at v7
          exact Or.inl ⟨rfl, j', n, (by first | decide | omega), v2, v3, (by first | decide | omega), (by first | decide | omega), (by first | decide | omega), v7, (by first | decide | omega)⟩
        · exact Or.inr er
theorem nm_of {K : zK} {Km : Nat} {N j : Int} {F : zF} {B : zB} {Fm : zF} {Bm : zB} (hE : EV K Km N B Bm) (hS : PS N j F B Fm Bm) (k : Bm 14 0 7 j = 3) : F 10 0 0 = 3 ∧ F 10 0 2 = Bm 14 0 9 j := by
  have tk := hE.1.2.2 j hS.2.1.1.1 hS.2.1.1.2
  exact ⟨hS.2.1.2.1.trans k, hS.2.1.2.2.2.1.trans (tk.2.2.2.2.2.1 k).1⟩
/-- a number is taken, or refused, alike -/
theorem P_num {K : zK} {Km : Nat} {N j lo hi : Int} {F : zF} {B : zB} {Fm : zF} {Bm : zB} (hE : EV K Km N B Bm) (hS : PS N j F B Fm Bm) (hl : r32 lo) (hh : r32 hi) : (Bm 14 0 7 j = 3 ∧ lo ≤ Bm 14 0 9 j ∧ Bm 14 0 9 j ≤ hi ∧ f_Parser_takeNumber K 0 lo hi 0 F B = some (1, advF (zup3 F 3 0 19 (Bm 14 0 9 j)) B, B) ∧ f_M_number Km lo hi 0 Fm Bm = some (Bm 14 0 9 j, zup3 Fm 14 0 16 (j + 1), Bm) ∧ PS N (j + 1) (advF (zup3 F 3 0 19 (Bm 14 0 9 j)) B) B (zup3 Fm 14 0 16 (j + 1)) Bm) ∨ (∃ s s' v, f_Parser_takeNumber K 0 lo hi 0 F B = some (0, refF F s, B) ∧ f_M_number Km lo hi 0 Fm Bm = some (v, errM Fm Bm s', Bm) ∧ ERR (refF F s) (errM Fm Bm s')) := by
  have hg := hS.2.2.2.1
  have cn := C_takeNumber (lo := lo) (hi := hi) (pw := 0) (PS_CX hE hS) hl hh (Or.inl rfl)
  have mn := L_number (K := Km) (lo := lo) (hi := hi) (pw := 0) hg (PS_MX hE hS) hl hh (Or.inl rfl)
  by_cases k : Bm 14 0 7 j = 3
  · obtain ⟨e0, e2⟩ := nm_of hE hS k
    by_cases n : nOK (Bm 14 0 9 j) lo hi 0
    · left
      have c := cn.1 e0 (by rw [e2]; exact n)
      rw [e2] at c
      exact ⟨k, n.1, n.2.1, c, mn.1 k n, PS_step hE (PS_u (k := 19) hS (by decide)) (by first | decide | omega)⟩
    · right
      exact ⟨5, 5, _, cn.2.1 e0 (by rw [e2]; exact n), mn.2.1 k n, PS_err hE hS (by rw [if_neg (by first | decide | omega)]) (by decide)⟩
  · right
    have e0 := hS.2.1.2.1
    exact ⟨2, wr Bm j, 0, cn.2.2 (by rw [e0]; exact k), mn.2.2 k, PS_err2 hE hS⟩
/-- a sign is taken, or refused, alike -/
theorem P_sig {K : zK} {Km : Nat} {N j c : Int} {F : zF} {B : zB} {Fm : zF} {Bm : zB} (hE : EV K Km N B Bm) (hS : PS N j F B Fm Bm) (hc : r32 c) : (sgAt Bm j c ∧ f_Parser_takeSign K 0 c F B = some (1, advF F B, B) ∧ f_M_need Km c Fm Bm = some (0, zup3 Fm 14 0 16 (j + 1), Bm) ∧ PS N (j + 1) (advF F B) B (zup3 Fm 14 0 16 (j + 1)) Bm) ∨ (f_Parser_takeSign K 0 c F B = some (0, refF F 2, B) ∧ f_M_need Km c Fm Bm = some (0, errM Fm Bm (wr Bm j), Bm) ∧ ERR (refF F 2) (errM Fm Bm (wr Bm j))) := by
  have hg := hS.2.2.2.1
  rw [C_takeSign (PS_CX hE hS) hc, L_need hg (PS_MX hE hS) hc, PS_sg hE hS]
  by_cases z : sgm Bm j c = 0
  · right
    rw [if_pos z, if_pos z]
    exact ⟨rfl, rfl, PS_err2 hE hS⟩
  · left
    have z' := Decidable.not_not.mp (mt sgm_0.mpr z)
    rw [if_neg z, if_neg z]
    exact ⟨z', rfl, rfl, PS_step hE hS (by first | decide | omega)⟩
theorem P_frac {K : zK} {Km : Nat} {N j x lo hi : Int} {F : zF} {B : zB} {Fm : zF} {Bm : zB} {kC kM : Int → zF → zB → zO} {Q : Int → zF → zB → Int → zF → zB → Prop} (hx : 0 ≤ x ∧ x < 3000) (hE : EV K Km N B Bm) (hS : PS N j F B Fm Bm) (hl : r32 lo) (hh : r32 hi) (ok : ∀ F' B' Fm' r', fF F F' → fG Fm Fm' → fX [2, 3] x (F 3 0 15) B B' → PS N (j + 3) F' B' Fm' Bm → nmAt Bm j (B' 3 0 2 x) lo hi → nmAt Bm (j + 2) (B' 3 0 3 x) 1 hi → F' 3 0 14 = F 3 0 14 → F' 3 0 15 = F 3 0 15 → F' 3 0 18 = F 3 0 18 → zP (kC 1 F' B') (kM r' Fm' Bm) Q) (no : ∀ F' B' Fm' r', fF F F' → fG Fm Fm' → fX [2, 3] x (F 3 0 15) B B' → ERR F' Fm' → zP (kC 0 F' B') (kM r' Fm' Bm) Q) : zP (zbind (f_Parser_takeFraction K 0 x lo hi F B) kC) (zbind (f_M_number Km lo hi 0 Fm Bm) (fun _ F2 B2 => zbind (f_M_need Km 47 F2 B2) (fun _ F3 B3 => zbind (f_M_number Km 1 hi 0 F3 B3) kM))) Q := by
  have k3 := hE.2.2.2.1
  unfold f_Parser_takeFraction f_Parser_takeFraction_41
  rw [if_pos ⟨(by first | decide | omega), k3⟩]
  rcases P_num hE hS hl hh with ⟨n1, n2, n3, c1, m1, hS1⟩ | ⟨s, s', v, c1, m1, er⟩
  · rw [c1, m1]
    simp only [zb_s]
    rw [if_pos (show r32 1 by decide), if_neg (show ¬ (1 : Int) = 0 by decide), if_pos hx]
    have e19 : (advF (zup3 F 3 0 19 (Bm 14 0 9 j)) B) 3 0 19 = Bm 14 0 9 j := by rw [advF_o (by decide)]; simp [zup3_v]
    rw [e19]
    have hX1 : fX [2, 3] x (F 3 0 15) B (zup4 B 3 0 2 x (Bm 14 0 9 j)) := fX_u fX_r (Or.inl ⟨by decide, rfl⟩)
    have hB1 := fX_B (lo := x) hX1 (by decide) (Int.le_refl _)
    have hE1 := EV_f hE hB1 (fH_r (fr := 0))
    have hS1' := PS_f hS1 hB1 (fH_r (fr := 0))
    rcases P_sig hE1 hS1' (c := 47) (by decide) with ⟨_, c2, m2, hS2⟩ | ⟨c2, m2, er⟩
    · rw [c2, m2]
      simp only [zb_s]
      rw [if_pos (show r32 1 by decide), if_neg (show ¬ (1 : Int) = 0 by decide)]
      rcases P_num hE1 hS2 (lo := 1) (hi := hi) (by decide) hh with ⟨p1, p2, p3, c3, m3, hS3⟩ | ⟨s, s', v, c3, m3, er⟩
      · rw [c3, m3]
        simp only [zb_s]
        rw [if_pos (show r32 1 by decide), if_neg (show ¬ (1 : Int) = 0 by decide)]
        have e19' : (advF (zup3 (advF (advF (zup3 F 3 0 19 (Bm 14 0 9 j)) B) (zup4 B 3 0 2 x (Bm 14 0 9 j))) 3 0 19 (Bm 14 0 9 (j + 1 + 1))) (zup4 B 3 0 2 x (Bm 14 0 9 j))) 3 0 19 = Bm 14 0 9 (j + 1 + 1) := by rw [advF_o (by decide)]; simp [zup3_v]
        rw [e19']
        have hX2 : fX [2, 3] x (F 3 0 15) B (zup4 (zup4 B 3 0 2 x (Bm 14 0 9 j)) 3 0 3 x (Bm 14 0 9 (j + 1 + 1))) := fX_u hX1 (Or.inl ⟨by decide, rfl⟩)
        have hX3 : fX [2, 3] x (F 3 0 15) (zup4 B 3 0 2 x (Bm 14 0 9 j)) (zup4 (zup4 B 3 0 2 x (Bm 14 0 9 j)) 3 0 3 x (Bm 14 0 9 (j + 1 + 1))) := fX_u fX_r (Or.inl ⟨by decide, rfl⟩)
        refine ok _ _ _ _ (fF_a (fF_u (fF_a (fF_a (fF_u fF_r (by decide)))) (by decide))) (fG_u (fG_u (fG_u fG_r (by decide) (by decide)) (by decide) (by decide)) (by decide) (by decide)) hX2 ?_ ?_ ?_ ?_ ?_ ?_
        · have := PS_f hS3 (fX_B (lo := x) hX3 (by decide) (Int.le_refl _)) (fH_r (fr := 0))
          rw [show j + 3 = j + 1 + 1 + 1 by omega]; exact this
        · refine ⟨n1, ?_, ?_, ?_⟩ <;> simp [zup4_v] <;> assumption
        · rw [show j + 2 = j + 1 + 1 by omega]
          refine ⟨p1, ?_, ?_, ?_⟩ <;> simp [zup4_v] <;> assumption
        · simp [advF_o, zup3_v]
        · simp [advF_o, zup3_v]
        · simp [advF_o, zup3_v]
      · rw [c3, m3]
        simp only [zb_s]
        rw [if_pos (show r32 0 by decide), if_pos trivial]
        exact no _ _ _ _ (fF_e (fF_a (fF_a (fF_u fF_r (by decide))))) (fG_e (fG_u (fG_u fG_r (by decide) (by decide)) (by decide) (by decide))) hX1 er
    · rw [c2, m2]
      simp only [zb_s]
      rw [if_pos (show r32 0 by decide), if_pos trivial, L_numberB er.2]
      simp only [zb_s]
      exact no _ _ _ _ (fF_e (fF_a (fF_u fF_r (by decide)))) (fG_e (fG_u fG_r (by decide) (by decide))) hX1 er
  · rw [c1, m1]
    simp only [zb_s]
    rw [if_pos (show r32 0 by decide), if_pos trivial, L_needB er.2]
    simp only [zb_s]
    rw [L_numberB er.2]
    simp only [zb_s]
    exact no _ _ _ _ (fF_e fF_r) (fG_e fG_r) fX_r er
end
end
section
section
/-! ===== items with blocks: what both sides do, word by word ===== -/
theorem ir0 {a b : zO} : (if r32 0 then a else b) = a := if_pos (by decide)
theorem ir1 {a b : zO} : (if r32 1 then a else b) = a := if_pos (by decide)
theorem i00 {a b : zO} : (if (0 : Int) = 0 then a else b) = a := if_pos rfl
theorem i10 {a b : zO} : (if (1 : Int) = 0 then a else b) = b := if_neg (by decide)
theorem zor01 {r : Int} {a b : zO} (h : r = 0 ∨ r = 1) : (if r = 0 ∨ r = 1 then a else b) = a := if_pos h
/-- the reference at a word: its row of tests -/
theorem L_wd {Km : Nat} {Fm : zF} {Bm : zB} {j w c : Int} (hM : MX Fm Bm j) (h : wdAt Bm j w) (hc : r64 c) : f_M_isWord Km c Fm Bm = some (if w = c then 1 else 0, Fm, Bm) := by
  rw [L_isWord hM hc]
  unfold wdm
  rw [h.1, h.2]
  by_cases e : w = c
  · rw [if_pos ⟨rfl, e⟩, if_pos e]
  · rw [if_neg (fun z => e z.2), if_neg e]
theorem L_itemW {om om' : oT_P} {Km : Nat} {Fm : zF} {Bm : zB} {j w : Int} (hM : MX Fm Bm j) (h : wdAt Bm j w) (ho : ∀ F B, om.2.2.2 F B = fb_M_itemOfWord om' Km F B) : fb_M_item om Km Fm Bm = zbind (fb_M_itemOfWord om' Km Fm Bm) (fun _ F20 B20 => f_M_item_202 om Km j F20 B20) := by
  have s : ∀ c, r32 c → f_M_isSign Km c Fm Bm = some (0, Fm, Bm) := by
    intro c hc
    rw [L_isSign hM hc]
    rw [show sgm Bm j c = 0 from sgm_0.mpr (fun z => by have := z.1; have := h.1; omega)]
  have h4 := h.1
  have h16 := hM.1
  have h0 := hM.2.1
  unfold fb_M_item
  rw [h16, if_pos (by first | decide | omega), if_pos (by first | decide | omega), if_neg (by first | decide | omega)]
  simp only [s 60 (by decide), s 124 (by decide), s 33 (by decide), s 91 (by decide), zb_s, ir0, if_true, if_false]
  rw [h16, if_pos (by first | decide | omega), if_pos (by first | decide | omega), if_pos h4, ho]
theorem C_itemB {o : oT_CP} {K : zK} {F : zF} {B : zB} {x : Int} (hX : CX K F B) (hx : 0 ≤ x ∧ x < 3000) (hk : B 3 0 0 x = 8) : fb_Parser_takeItem o K 0 x F B = zbind (o.1 0 x (advF F B) B) (fun r F B => if (r = 0 ∨ r = 1) then some (r, F, B) else none) := by
  unfold fb_Parser_takeItem
  rw [if_pos ⟨(by first | decide | omega), hX.1⟩, if_pos hx, hk, hX.2.2.1, if_pos (by decide), if_neg (by decide), if_neg (by decide), if_pos ⟨(by first | decide | omega), hX.2.1⟩, C_adv hX]
  simp only [zb_s, hk]
  rfl
theorem C_itemM {o : oT_CP} {K : zK} {F : zF} {B : zB} {x : Int} (hX : CX K F B) (hx : 0 ≤ x ∧ x < 3000) (hk : B 3 0 0 x = 6) : fb_Parser_takeItem o K 0 x F B = zbind (o.2.2.2.2.2.2.1 0 x (advF F B) B) (fun r F B => if (r = 0 ∨ r = 1) then some (r, F, B) else none) := by
  unfold fb_Parser_takeItem
  rw [if_pos ⟨(by first | decide | omega), hX.1⟩, if_pos hx, hk, hX.2.2.1, if_pos (by decide), if_neg (by decide), if_neg (by decide), if_pos ⟨(by first | decide | omega), hX.2.1⟩, C_adv hX]
  simp only [zb_s, hk]
  rfl
theorem C_itemI {o : oT_CP} {K : zK} {F : zF} {B : zB} {x : Int} (hX : CX K F B) (hx : 0 ≤ x ∧ x < 3000) (hk : B 3 0 0 x = 7) : fb_Parser_takeItem o K 0 x F B = zbind (o.2.2.2.2.2.2.2 0 x (advF F B) B) (fun r F B => if (r = 0 ∨ r = 1) then some (r, F, B) else none) := by
  unfold fb_Parser_takeItem
  rw [if_pos ⟨(by first | decide | omega), hX.1⟩, if_pos hx, hk, hX.2.2.1, if_pos (by decide), if_neg (by decide), if_neg (by decide), if_pos ⟨(by first | decide | omega), hX.2.1⟩, C_adv hX]
  simp only [zb_s, hk]
  rfl
theorem C_itemR {o : oT_CP} {K : zK} {F : zF} {B : zB} {x : Int} (hX : CX K F B) (hx : 0 ≤ x ∧ x < 3000) (hk : B 3 0 0 x = 4) : fb_Parser_takeItem o K 0 x F B = zbind (o.2.2.2.2.1 0 x (advF F B) B) (fun r F B => if (r = 0 ∨ r = 1) then some (r, F, B) else none) := by
  unfold fb_Parser_takeItem
  rw [if_pos ⟨(by first | decide | omega), hX.1⟩, if_pos hx, hk, hX.2.2.1, if_pos (by decide), if_neg (by decide), if_neg (by decide), if_pos ⟨(by first | decide | omega), hX.2.1⟩, C_adv hX]
  simp only [zb_s, hk]
  rfl
theorem C_itemU {o : oT_CP} {K : zK} {F : zF} {B : zB} {x : Int} (hX : CX K F B) (hx : 0 ≤ x ∧ x < 3000) (hk : B 3 0 0 x = 5) : fb_Parser_takeItem o K 0 x F B = zbind (f_Parser_takeUse K 0 x (advF F B) B) (fun r F B => if (r = 0 ∨ r = 1) then some (r, F, B) else none) := by
  unfold fb_Parser_takeItem
  rw [if_pos ⟨(by first | decide | omega), hX.1⟩, if_pos hx, hk, hX.2.2.1, if_pos (by decide), if_neg (by decide), if_neg (by decide), if_pos ⟨(by first | decide | omega), hX.2.1⟩, C_adv hX]
  simp only [zb_s, hk]
  rfl
theorem C_itemL {o : oT_CP} {K : zK} {F : zF} {B : zB} {x : Int} (hX : CX K F B) (hx : 0 ≤ x ∧ x < 3000) (hk : B 3 0 0 x = 2) : fb_Parser_takeItem o K 0 x F B = zbind (f_Parser_takeLoud K 0 x (advF F B) B) (fun r F B => if (r = 0 ∨ r = 1) then some (r, F, B) else none) := by
  unfold fb_Parser_takeItem
  rw [if_pos ⟨(by first | decide | omega), hX.1⟩, if_pos hx, hk, hX.2.2.1, if_pos (by decide), if_neg (by decide), if_neg (by decide), if_pos ⟨(by first | decide | omega), hX.2.1⟩, C_adv hX]
  simp only [zb_s, hk]
  rfl
theorem C_item1 {o : oT_CP} {K : zK} {F : zF} {B : zB} {x : Int} (hX : CX K F B) (hx : 0 ≤ x ∧ x < 3000) (hk : B 3 0 0 x = 1) : fb_Parser_takeItem o K 0 x F B = some (1, advF F B, B) := by
  unfold fb_Parser_takeItem
  rw [if_pos ⟨(by first | decide | omega), hX.1⟩, if_pos hx, hk, hX.2.2.1, if_pos (by decide), if_neg (by decide), if_neg (by decide), if_pos ⟨(by first | decide | omega), hX.2.1⟩, C_adv hX]
  simp only [zb_s, hk]
  rfl
theorem C_itemS {o : oT_CP} {K : zK} {F : zF} {B : zB} {x : Int} (hX : CX K F B) (hx : 0 ≤ x ∧ x < 3000) (hk : B 3 0 0 x = 9) : fb_Parser_takeItem o K 0 x F B = zbind (f_Parser_takeFraction K 0 x 1 8 (advF F B) B) (fun r29 F29 B29 => if r32 r29 then (if r29 = 0 then some (0, F29, B29) else zbind (o.1 0 x F29 B29) (fun r33 F33 B33 => if r32 r33 then (if r33 = 0 then some (0, F33, B33) else some (1, F33, B33)) else none)) else none) := by
  unfold fb_Parser_takeItem
  rw [if_pos ⟨(by first | decide | omega), hX.1⟩, if_pos hx, hk, hX.2.2.1, if_pos (by decide), if_neg (by decide), if_neg (by decide), if_pos ⟨(by first | decide | omega), hX.2.1⟩, C_adv hX]
  simp only [zb_s, hk]
  rfl
theorem C_itemE {o : oT_CP} {K : zK} {F : zF} {B : zB} {x : Int} (hX : CX K F B) (hx : 0 ≤ x ∧ x < 3000) (hk : B 3 0 0 x = 0) : fb_Parser_takeItem o K 0 x F B = zbind (f_Parser_takeEvent K 0 x F B) (fun r F B => if (r = 0 ∨ r = 1) then some (r, F, B) else none) := by
  unfold fb_Parser_takeItem
  rw [if_pos ⟨(by first | decide | omega), hX.1⟩, if_pos hx, hk, if_pos (by decide), if_pos rfl]
theorem C_itemT {o : oT_CP} {K : zK} {F : zF} {B : zB} {x : Int} (hX : CX K F B) (hx : 0 ≤ x ∧ x < 3000) (hk : B 3 0 0 x = 3) : fb_Parser_takeItem o K 0 x F B = zbind (o.2.2.2.1 0 x F B) (fun r F B => if (r = 0 ∨ r = 1) then some (r, F, B) else none) := by
  unfold fb_Parser_takeItem
  rw [if_pos ⟨(by first | decide | omega), hX.1⟩, if_pos hx, hk, if_pos (by decide), if_neg (by decide), if_pos rfl]
/-- a block of the item x, as later worlds see it -/
theorem BK_of {L : Int} {d' n : Nat} {x a j' lo hi pl ph hi' pl' ph' i e' : Int} {B' Bm' Bx By : zB} (ab : agB L x hi' pl' ph' x B' Bx) (am : agM L i e' Bm' By) (hs : SLR L d' n (B' 3 0 4 x) (a + 1) (j' - 1) lo hi pl ph B' Bm') (h30 : Bm' 14 0 30 a = j' - 1) (h1 : x < lo) (h2 : hi ≤ hi') (h3 : pl' ≤ pl) (h4 : ph ≤ ph') (h5 : i ≤ a) (h6 : j' ≤ e') (h7 : a + 2 ≤ j') (h8 : lo ≤ hi) (h9 : j' ≤ 3001) : BKf (IRd L d') Bx By x a := by
  have e30 : By 14 0 30 a = j' - 1 := by rw [am.1 30 a (by decide) (by decide) h5 (by first | decide | omega)]; exact h30
  have e4 : Bx 3 0 4 x = B' 3 0 4 x := ab.1 4 x (by decide) (Int.le_refl _) (by first | decide | omega) (fun z => absurd z.1 (by decide))
  refine ⟨(by first | decide | omega), (by first | decide | omega), n, ?_⟩
  rw [e30, e4]
  exact hs Bx By (agB_m ab (by first | decide | omega) h2 h3 h4 (Or.inr (Or.inl (by first | decide | omega)))) (agM_m am (by first | decide | omega) (by first | decide | omega))
/-- behind a block the item ends: its outcome, from the block's -/
theorem IPO_B {L : Int} {d : Nat} {N j x jb r : Int} {F F0 : zF} {B B0 : zB} {Fm Fm0 : zF} {Bm : zB} {F' : zF} {B' : zB} {Fm' : zF} {Bm' : zB} (h : BPO L d N jb x F0 B0 Fm0 Bm r F' B' Fm' Bm') (hN : N ≤ 3000) (hj : j < jb) (hx : x + 1 = F 3 0 14) (gF : fF F F0) (gG : fG Fm Fm0) (gB : fB x (F 3 0 15) B B0) (e14 : F0 3 0 14 = F 3 0 14) (e15 : F0 3 0 15 = F 3 0 15) (e18 : F0 3 0 18 = F 3 0 18) (h5 : B0 3 0 5 x = -1) (hI : ∀ j' n Bx By, jb + 2 ≤ j' → agB L x (F' 3 0 14) (F 3 0 15) (F' 3 0 15) x B' Bx → agM L j j' (zup4 Bm' 14 0 31 j j') By → BKf (IRd L (d - 1)) Bx By x jb → SLR L (d - 1) n (B' 3 0 4 x) (jb + 1) (j' - 1) (F 3 0 14) (F' 3 0 14) (F 3 0 15) (F' 3 0 15) B' Bm' → Bm' 14 0 30 jb = j' - 1 → By 14 0 31 j = j' → (∀ k, k ≤ 7 → k ≠ 5 → Bx 3 0 k x = B' 3 0 k x) → (∀ k, 7 ≤ k → k ≤ 11 → By 14 0 k = Bm 14 0 k) → (∀ k, k ≤ 7 → k ≠ 4 → B' 3 0 k x = B0 3 0 k x) → IRn (IRd L (d - 1)) Bx By x j) : r = 0 ∨ r = 1 → IPO L d N j x F B Fm Bm r F' B' Fm' (zup4 Bm' 14 0 31 j (Fm' 14 0 16)) := by
  intro hr
  obtain ⟨g1, g2, g3, g4, g5⟩ := h
  have hH : fH j Bm' (zup4 Bm' 14 0 31 j (Fm' 14 0 16)) := fH_u fH_r (by decide) (by decide) (Int.le_refl _)
  rw [e14, e15] at g3
  have gK : fB x (F 3 0 15) B B' := fun c i k y a b => by
    rw [g3 c i k y (fun z => a ⟨z.1, z.2.1, z.2.2.1, by have := z.2.2.2; omega⟩) b (fun z => a ⟨z.1, z.2.1, by have := z.2.2.1; omega, by have := z.2.2.2; omega⟩)]
    exact gB c i k y a b
  refine ⟨fF_t gF g1, fG_t gG g2, gK, fH_t (fH_m g4 (by first | decide | omega)) hH, ?_⟩
  rcases g5 with ⟨rfl, j', n, v1, v2, v3, v4, v5, v6, v7, v8⟩ | er
  · left
    refine ⟨rfl, Or.inl ⟨j', (by first | decide | omega), PS_f (lo := 0) (pl := 0) v2 fB_r hH, ?_, (by first | decide | omega), (by first | decide | omega), (by first | decide | omega), ?_, ?_⟩⟩
    · simp [zup4_v]; exact v2.2.2.1
    · rw [g3 3 0 5 x (fun z => by have := z.2.2.2; omega) (fun z => absurd z.2.2.1 (by decide)) (fun z => absurd z.2.2.1 (by decide))]; exact h5
    · intro Bx By ab am
      rw [v2.2.2.1] at am
      rw [e14, e15] at v7
      have w30 : (zup4 Bm' 14 0 31 j j') 14 0 30 jb = j' - 1 := by simp [zup4_v]; exact v3
      have hs : SLR L (d - 1) n (B' 3 0 4 x) (jb + 1) (j' - 1) (F 3 0 14) (F' 3 0 14) (F 3 0 15) (F' 3 0 15) B' (zup4 Bm' 14 0 31 j j') := SLR_t v7 agB_r ⟨fun k y p q a b => by rw [zup4_v, if_neg (fun z => by have := z.2.2.2; omega)], fun k p q => by funext y; rw [zup4_v, if_neg (fun z => by have := z.2.2.1; omega)], fun q p a => by rw [zup4_v, if_neg (fun z => absurd z.2.2.1 (by decide))]⟩
      have bk := BK_of ab am hs w30 (by first | decide | omega) (Int.le_refl _) (Int.le_refl _) (Int.le_refl _) (by first | decide | omega) (Int.le_refl _) (by first | decide | omega) (by first | decide | omega) (by have := v2.2.1.1.2; omega)
      have e31 : By 14 0 31 j = j' := by rw [am.1 31 j (by decide) (by decide) (Int.le_refl _) (by first | decide | omega)]; simp [zup4_v]
      have w : ∀ k, 7 ≤ k → k ≤ 11 → By 14 0 k = Bm 14 0 k := fun k p q => by
        rw [am.2.1 k p q]
        funext y
        rw [zup4_v, if_neg (fun z => by have := z.2.2.1; omega), fH_k g4 k (by first | decide | omega)]
      have res := hI j' n Bx By v1 ab am bk v7 v3 e31 (fun k p q => ab.1 k x p (Int.le_refl _) (by first | decide | omega) (fun z => q z.1)) w (fun k p q => g3 3 0 k x (fun z => by have := z.2.2.2; omega) (fun z => by have := z.2.2.1; omega) (fun z => q z.2.2.1))
      obtain ⟨d', rfl⟩ : ∃ y, d = y + 1 := ⟨d - 1, (by first | decide | omega)⟩
      exact Or.inr res
  · exact Or.inr er
end
end
section
section
/-! ===== back, slow, mirror, move, on both sides ===== -/
theorem IRn_at {R : zB → zB → Int → Int → Prop} {B0 B' Bx Bm By : zB} {x j s : Int} (hF : fresh B0 Bm x j s) (gx : ∀ k, k ≤ 7 → k ≠ 5 → Bx 3 0 k x = B' 3 0 k x) (w : ∀ k, 7 ≤ k → k ≤ 11 → By 14 0 k = Bm 14 0 k) (g0 : ∀ k, k ≤ 1 → B' 3 0 k x = B0 3 0 k x) : Bx 3 0 1 x = By 14 0 8 j ∧ Bx 3 0 0 x = s := by
  rw [gx 1 (by decide) (by decide), gx 0 (by decide) (by decide), g0 1 (by decide), g0 0 (by decide), w 8 (by decide) (by decide)]
  exact ⟨hF.2.1, hF.1⟩
theorem wdAt_c {Bm By : zB} {j v : Int} (h : wdAt Bm j v) (w : ∀ k, 7 ≤ k → k ≤ 11 → By 14 0 k = Bm 14 0 k) : wdAt By j v := by
  unfold wdAt at *
  rw [w 7 (by decide) (by decide), w 11 (by decide) (by decide)]; exact h
theorem sgAt_c {Bm By : zB} {j v : Int} (h : sgAt Bm j v) (w : ∀ k, 7 ≤ k → k ≤ 11 → By 14 0 k = Bm 14 0 k) : sgAt By j v := by
  unfold sgAt at *
  rw [w 7 (by decide) (by decide), w 9 (by decide) (by decide)]; exact h
theorem nmAt_c {Bm By : zB} {j v lo hi : Int} (h : nmAt Bm j v lo hi) (w : ∀ k, 7 ≤ k → k ≤ 11 → By 14 0 k = Bm 14 0 k) : nmAt By j v lo hi := by
  unfold nmAt at *
  rw [w 7 (by decide) (by decide), w 9 (by decide) (by decide)]; exact h
theorem mvV_c {Bm By : zB} {j : Int} (w : ∀ k, 7 ≤ k → k ≤ 11 → By 14 0 k = Bm 14 0 k) : mvV By j = mvV Bm j := by
  unfold mvV
  rw [w 9 (by decide) (by decide), w 10 (by decide) (by decide)]
theorem BPO_r {L : Int} {d : Nat} {N j x r : Int} {F : zF} {B : zB} {Fm : zF} {Bm : zB} {F' : zF} {B' : zB} {Fm' : zF} {Bm' : zB} (h : BPO L d N j x F B Fm Bm r F' B' Fm' Bm') : r = 0 ∨ r = 1 := by
  rcases h.2.2.2.2 with z | z
  · exact Or.inr z.1
  · exact Or.inl z.1
theorem P_back {L : Int} {d : Nat} {K : zK} {Km : Nat} {N j x : Int} {o : oT_CP} {om om' : oT_P} {F : zF} {B : zB} {Fm : zF} {Bm : zB} (hx : 0 ≤ x ∧ x < 3000) (hxi : x + 1 = F 3 0 14) (hij : F 3 0 14 ≤ j + 1) (hE : EV K Km N B Bm) (hS : PS N j F B Fm Bm) (hd : F 3 0 18 + d = 8) (hdp : 1 ≤ F 3 0 18) (hLT : LT L F B Fm Bm) (hF : fresh B Bm x j 8) (wd : wdAt Bm j 1650549611) (ho : ∀ F B, om.2.2.2 F B = fb_M_itemOfWord om' Km F B) (hBk : BlkSim L K Km N d o.1 om'.1) : zP (fb_Parser_takeItem o K 0 x F B) (fb_M_item om Km Fm Bm) (fun r F' B' _ Fm' Bm' => IPO L d N j x F B Fm Bm r F' B' Fm' Bm') := by
  have hM := PS_MX hE hS
  have h4 := wd.1
  have jj := hS.2.1.1
  have nn := hE.1.2.1
  have t : ∀ c, r64 c → f_M_isWord Km c Fm Bm = some (if 1650549611 = c then 1 else 0, Fm, Bm) := fun c hc => L_wd hM wd hc
  have hS1 := PS_step hE hS (by first | decide | omega)
  have a14 : (advF F B) 3 0 14 = F 3 0 14 := advF_o (by decide)
  have a15 : (advF F B) 3 0 15 = F 3 0 15 := advF_o (by decide)
  have a18 : (advF F B) 3 0 18 = F 3 0 18 := advF_o (by decide)
  have gF : fF F (advF F B) := fF_a fF_r
  have gG : fG Fm (zup3 Fm 14 0 16 (j + 1)) := fG_u fG_r (by decide) (by decide)
  have hLT1 := LT_k (k0 := 0) (x0 := 0) (lo := 0) (pl := 0) (fr := 0) (j := 0) hLT gF gG fK_r (by decide) (fJ_H fH_r (Int.le_refl _))
  rw [C_itemB (PS_CX hE hS) hx hF.1, L_itemW hM wd ho]
  unfold fb_M_itemOfWord f_M_itemOfWord_389
  simp only [t 114 (by decide), t 125780002955636 (by decide), t 7697253 (by decide), t 1836021349 (by decide), t 120299659095922 (by decide), t 1650549611 (by decide), zb_s, zb_a, ir0, ir1, if_true, if_false, Int.reduceEq, hM.1]
  refine zP_c (hBk (x := x) (j := j + 1) hx.1 (by first | decide | omega) (by first | decide | omega) hE hS1 (by first | decide | omega) (PS_pw hS1 (by first | decide | omega)) hLT1 hF.2.2.2.2.1) (fun r F' B' r' Fm' Bm' hh => ?_)
  have hr := BPO_r hh
  rw [L_202 (by first | decide | omega), if_pos hr]
  refine zP_s (IPO_B hh hE.1.2.1 (by first | decide | omega) hxi gF gG fB_r a14 a15 a18 hF.2.2.2.2.2.1 ?_ hr)
  intro j' n Bx By _ _ _ bk _ _ _ gx w g0
  obtain ⟨p1, p0⟩ := IRn_at hF gx w (fun k hk => g0 k (by first | decide | omega) (by first | decide | omega)) (R := IRd L (d - 1))
  exact ⟨p1, Or.inr (Or.inr (Or.inr (Or.inr (Or.inl ⟨p0, wdAt_c wd w, bk⟩))))⟩
theorem P_slow {L : Int} {d : Nat} {K : zK} {Km : Nat} {N j x : Int} {o : oT_CP} {om om' : oT_P} {F : zF} {B : zB} {Fm : zF} {Bm : zB} (hx : 0 ≤ x ∧ x < 3000) (hxi : x + 1 = F 3 0 14) (hij : F 3 0 14 ≤ j + 1) (hE : EV K Km N B Bm) (hS : PS N j F B Fm Bm) (hd : F 3 0 18 + d = 8) (hdp : 1 ≤ F 3 0 18) (hLT : LT L F B Fm Bm) (hF : fresh B Bm x j 9) (wd : wdAt Bm j 1936486263) (ho : ∀ F B, om.2.2.2 F B = fb_M_itemOfWord om' Km F B) (hBk : BlkSim L K Km N d o.1 om'.1) (hBd : BlkBad om'.1) : zP (fb_Parser_takeItem o K 0 x F B) (fb_M_item om Km Fm Bm) (fun r F' B' _ Fm' Bm' => IPO L d N j x F B Fm Bm r F' B' Fm' Bm') := by
  have hM := PS_MX hE hS
  have h4 := wd.1
  have jj := hS.2.1.1
  have nn := hE.1.2.1
  have t : ∀ c, r64 c → f_M_isWord Km c Fm Bm = some (if 1936486263 = c then 1 else 0, Fm, Bm) := fun c hc => L_wd hM wd hc
  have hS1 := PS_step hE hS (by first | decide | omega)
  have a14 : (advF F B) 3 0 14 = F 3 0 14 := advF_o (by decide)
  have a15 : (advF F B) 3 0 15 = F 3 0 15 := advF_o (by decide)
  have a18 : (advF F B) 3 0 18 = F 3 0 18 := advF_o (by decide)
  have gF : fF F (advF F B) := fF_a fF_r
  have gG : fG Fm (zup3 Fm 14 0 16 (j + 1)) := fG_u fG_r (by decide) (by decide)
  rw [C_itemS (PS_CX hE hS) hx hF.1, L_itemW hM wd ho]
  unfold fb_M_itemOfWord f_M_itemOfWord_389
  simp only [t 114 (by decide), t 125780002955636 (by decide), t 7697253 (by decide), t 1836021349 (by decide), t 120299659095922 (by decide), t 1650549611 (by decide), t 1936486263 (by decide), zb_s, zb_a, ir0, ir1, if_true, if_false, Int.reduceEq, hM.1]
  refine P_frac hx hE hS1 (by decide) (by decide) ?_ ?_
  · intro F1 B1 Fm1 r1 q1 q2 q3 q4 q5 q6 q7 q8 q9
    rw [a14] at q7
    rw [a15] at q3 q8
    rw [a18] at q9
    simp only [ir1, i10]
    have hB1 := fX_B (lo := x) q3 (by decide) (Int.le_refl _)
    have gF1 := fF_t gF q1
    have gG1 := fG_t gG q2
    have hLT1 := LT_k (fr := 0) (j := 0) hLT gF1 gG1 (fB_K hB1) (by decide) (fJ_H fH_r (Int.le_refl _))
    refine zP_c (hBk (x := x) (j := j + 1 + 3) hx.1 (by first | decide | omega) (by first | decide | omega) (EV_f hE hB1 (fH_r (fr := 0))) q4 (by first | decide | omega) (PS_pw q4 (by first | decide | omega)) hLT1 (by rw [fX_3 q3 (by decide) (by decide)]; exact hF.2.2.2.2.1)) (fun r F' B' r' Fm' Bm' hh => ?_)
    have hr := BPO_r hh
    have fin := IPO_B (j := j) hh hE.1.2.1 (by first | decide | omega) hxi gF1 gG1 hB1 q7 q8 q9 (by rw [fX_3 q3 (by decide) (by decide)]; exact hF.2.2.2.2.2.1) (by
      intro j' n Bx By _ _ _ bk _ _ _ gx w g0
      obtain ⟨p1, p0⟩ := IRn_at hF gx w (fun k hk => by rw [g0 k (by first | decide | omega) (by first | decide | omega), fX_3 q3 (by simp; omega) (by first | decide | omega)]) (R := IRd L (d - 1))
      refine ⟨p1, Or.inr (Or.inr (Or.inr (Or.inr (Or.inr ⟨p0, wdAt_c wd w, ?_, ?_, ?_⟩))))⟩
      · rw [gx 2 (by decide) (by decide), g0 2 (by decide) (by decide)]; exact nmAt_c q5 w
      · rw [gx 3 (by decide) (by decide), g0 3 (by decide) (by decide)]
        rw [show j + 1 + 2 = j + 3 by omega] at q6
        exact nmAt_c q6 w
      · rw [show j + 4 = j + 1 + 3 by omega]; exact bk) hr
    rw [L_202 (by first | decide | omega)]
    rcases hr with rfl | rfl
    · simp only [ir0, i00]; exact zP_s fin
    · simp only [ir1, i10]; exact zP_s fin
  · intro F1 B1 Fm1 r1 q1 q2 q3 er
    rw [a15] at q3
    simp only [ir0, i00]
    rw [hBd er.2]
    simp only [zb_s]
    rw [L_202 (by first | decide | omega)]
    exact zP_s ⟨fF_t gF q1, fG_t gG q2, fX_B q3 (by decide) (Int.le_refl _), fH_u fH_r (by decide) (by decide) (Int.le_refl _), Or.inr ⟨rfl, er⟩⟩
end
end
section
section
/-! ===== mirror and move, on both sides ===== -/
theorem L_252e {o : oT_P} {Km n : Nat} {l : Int} {Fm : zF} {Bm : zB} (hl : r32 l) : f_M_itemOfWord_252 o Km (n + 1) l l Fm Bm = zbind (o.1 Fm Bm) (fun _ F B => some (0, F, B)) := by
  unfold f_M_itemOfWord_252 f_M_itemOfWord_300 f_M_itemOfWord_389
  rw [if_pos hl, if_pos hl, if_pos (Int.le_refl _)]
theorem L_252p {o : oT_P} {Km n : Nat} {l m j : Int} {Fm : zF} {Bm : zB} (hl : r32 l) (hm : r32 m) (h : l < m) (hg : Fm 14 0 17 = 0) (hM : MX Fm Bm j) (h2 : Bm 14 0 7 j = 2) : f_M_itemOfWord_252 o Km (n + 1) l m Fm Bm = f_M_itemOfWord_252 o Km n (l + 1) m (zup3 Fm 14 0 16 (j + 1)) Bm := by
  have h16 := hM.1
  have h0 := hM.2.1
  rw [f_M_itemOfWord_252]
  rw [if_pos hl, if_pos hm, if_neg (by first | decide | omega), L_good hg]
  simp only [zb_s, ir1, if_false, Int.reduceEq]
  unfold f_M_itemOfWord_294
  rw [h16, if_pos (by first | decide | omega), if_pos (by first | decide | omega), if_pos h2]
theorem L_252w {o : oT_P} {Km n : Nat} {l m j : Int} {Fm : zF} {Bm : zB} (hl : r32 l) (hm : r32 m) (h : l < m) (hl2 : r32 (l + 1)) (hn : 0 < n) (hg : Fm 14 0 17 = 0) (hM : MX Fm Bm j) (h2 : ¬ Bm 14 0 7 j = 2) (hB : BlkBad o.1) : f_M_itemOfWord_252 o Km (n + 1) l m Fm Bm = some (0, errM Fm Bm (wr Bm j), Bm) := by
  have h16 := hM.1
  have h0 := hM.2.1
  have hk := hM.2.2.1
  obtain ⟨n, rfl⟩ : ∃ y, n = y + 1 := ⟨n - 1, (by first | decide | omega)⟩
  have hb : bad (errM Fm Bm (wr Bm j)) := by
    unfold bad errM wr
    simp only [zup3_v]
    simp
    split <;> omega
  rw [f_M_itemOfWord_252]
  rw [if_pos hl, if_pos hm, if_neg (by first | decide | omega), L_good hg]
  simp only [zb_s, ir1, if_false, Int.reduceEq]
  unfold f_M_itemOfWord_294
  rw [h16, if_pos (by first | decide | omega), if_pos (by first | decide | omega), if_neg h2, L_wrong hg hM]
  simp only [zb_s]
  rw [f_M_itemOfWord_252]
  unfold f_M_itemOfWord_300 f_M_itemOfWord_389
  rw [if_pos hl2, if_pos hm, hB hb, L_goodB hb]
  simp only [zb_s, ir0, if_true]
  split <;> first | rfl | (rw [hB hb]; rfl)
theorem P_mirror {L : Int} {d : Nat} {K : zK} {Km : Nat} {N j x : Int} {o o' : oT_CP} {om om' : oT_P} {F : zF} {B : zB} {Fm : zF} {Bm : zB} (hx : 0 ≤ x ∧ x < 3000) (hxi : x + 1 = F 3 0 14) (hij : F 3 0 14 ≤ j + 1) (hE : EV K Km N B Bm) (hS : PS N j F B Fm Bm) (hd : F 3 0 18 + d = 8) (hdp : 1 ≤ F 3 0 18) (hLT : LT L F B Fm Bm) (hF : fresh B Bm x j 7) (wd : wdAt Bm j 120299659095922) (ho : ∀ F B, om.2.2.2 F B = fb_M_itemOfWord om' Km F B) (hoc : ∀ l0 l1 F B, o.2.2.2.2.2.2.2 l0 l1 F B = fb_Parser_takeMirror o' K l0 l1 F B) (hBk : BlkSim L K Km N d o'.1 om'.1) (hBd : BlkBad om'.1) : zP (fb_Parser_takeItem o K 0 x F B) (fb_M_item om Km Fm Bm) (fun r F' B' _ Fm' Bm' => IPO L d N j x F B Fm Bm r F' B' Fm' Bm') := by
  have hM := PS_MX hE hS
  have h4 := wd.1
  have jj := hS.2.1.1
  have nn := hE.1.2.1
  have km := hE.2.2.2.2.2.2
  have k3 := hE.2.2.2.1
  have k10 := hE.2.2.2.2.1
  have t : ∀ c, r64 c → f_M_isWord Km c Fm Bm = some (if 120299659095922 = c then 1 else 0, Fm, Bm) := fun c hc => L_wd hM wd hc
  have hS1 := PS_step hE hS (by first | decide | omega)
  have hX1 := PS_CX hE hS1
  have hM1 := PS_MX hE hS1
  have hg1 := hS1.2.2.2.1
  have e11 := hS1.1
  have a14 : (advF F B) 3 0 14 = F 3 0 14 := advF_o (by decide)
  have a15 : (advF F B) 3 0 15 = F 3 0 15 := advF_o (by decide)
  have a18 : (advF F B) 3 0 18 = F 3 0 18 := advF_o (by decide)
  have gF : fF F (advF F B) := fF_a fF_r
  have gG : fG Fm (zup3 Fm 14 0 16 (j + 1)) := fG_u fG_r (by decide) (by decide)
  obtain ⟨kk, rfl⟩ : ∃ y, Km = y + 1 + 1 := ⟨Km - 2, (by first | decide | omega)⟩
  rw [C_itemI (PS_CX hE hS) hx hF.1, L_itemW hM wd ho]
  unfold fb_M_itemOfWord f_M_itemOfWord_224 f_M_itemOfWord_239
  simp only [t 114 (by decide), t 125780002955636 (by decide), t 7697253 (by decide), t 1836021349 (by decide), t 120299659095922 (by decide), zb_s, ir0, ir1, if_true, if_false, Int.reduceEq, hM.1]
  rw [hoc]
  unfold fb_Parser_takeMirror
  rw [if_pos ⟨(by first | decide | omega), k3⟩, e11, if_pos ⟨(by first | decide | omega), k10⟩, if_pos (by have := hX1.2.2.2.1; omega), hS1.2.1.2.1]
  by_cases k2 : Bm 14 0 7 (j + 1) = 2
  · obtain ⟨s3, s4⟩ := hS1.2.1.2.2.2.2.1 k2
    have tk := hE.1.2.2 (j + 1) hS1.2.1.1.1 hS1.2.1.1.2
    obtain ⟨_, v1, v2, v3, v4⟩ := tk.2.2.2.2.1 k2
    have hXA : fX [2, 3] x (F 3 0 15) B (zup4 B 3 0 2 x (2 * Bm 14 0 9 (j + 1))) := fX_u fX_r (Or.inl ⟨by decide, rfl⟩)
    have hXB : fX [2, 3] x (F 3 0 15) B (zup4 (zup4 B 3 0 2 x (2 * Bm 14 0 9 (j + 1))) 3 0 3 x (2 * (tnv (Bm 14 0 9 (j + 1)) + Bm 14 0 10 (j + 1)))) := fX_u hXA (Or.inl ⟨by decide, rfl⟩)
    have hB2 := fX_B (lo := x) hXB (by decide) (Int.le_refl _)
    have hE2 := EV_f hE hB2 (fH_r (fr := 0))
    have hS2 := PS_f hS1 hB2 (fH_r (fr := 0))
    have hS3 := PS_step hE2 hS2 (by first | decide | omega)
    rw [if_pos k2, if_pos hx, s3, C_nat v1 v2, L_252p (by decide) (by decide) (by first | decide | omega) hg1 hM1 k2, show (0 : Int) + 1 = 1 from rfl, L_252e (by decide)]
    simp only [zb_s]
    rw [e11, if_pos ⟨(by first | decide | omega), k10⟩, s4, C_adv (CX_b (CX_b hX1))]
    simp only [zb_s, zb_a]
    have gF1 : fF F (advF (advF F B) (zup4 (zup4 B 3 0 2 x (2 * Bm 14 0 9 (j + 1))) 3 0 3 x (2 * (tnv (Bm 14 0 9 (j + 1)) + Bm 14 0 10 (j + 1))))) := fF_a gF
    have gG1 : fG Fm (zup3 (zup3 Fm 14 0 16 (j + 1)) 14 0 16 (j + 1 + 1)) := fG_u gG (by decide) (by decide)
    have hLT1 := LT_k (fr := 0) (j := 0) hLT gF1 gG1 (fB_K hB2) (by decide) (fJ_H fH_r (Int.le_refl _))
    refine zP_c (hBk (x := x) (j := j + 1 + 1) hx.1 (by rw [advF_o (by decide)]; omega) (by rw [advF_o (by decide)]; omega) hE2 hS3 (by rw [advF_o (by decide)]; omega) (PS_pw hS3 (by rw [advF_o (by decide)]; omega)) hLT1 (by rw [fX_3 hXB (by decide) (by decide)]; exact hF.2.2.2.2.1)) (fun r F' B' r' Fm' Bm' hh => ?_)
    have hr := BPO_r hh
    rw [if_pos hr]
    simp only [zb_s]
    rw [if_pos hr, L_202 (by first | decide | omega)]
    refine zP_s (IPO_B (j := j) hh hE.1.2.1 (by first | decide | omega) hxi gF1 gG1 hB2 (by rw [advF_o (by decide)]; exact a14) (by rw [advF_o (by decide)]; exact a15) (by rw [advF_o (by decide)]; exact a18) (by rw [fX_3 hXB (by decide) (by decide)]; exact hF.2.2.2.2.2.1) ?_ hr)
    intro j' n Bx By _ _ _ bk _ _ _ gx w g0
    obtain ⟨p1, p0⟩ := IRn_at hF gx w (fun k hk => by rw [g0 k (by first | decide | omega) (by first | decide | omega), fX_3 hXB (by simp; omega) (by first | decide | omega)]) (R := IRd L (d - 1))
    refine ⟨p1, Or.inr (Or.inr (Or.inr (Or.inl ⟨p0, wdAt_c wd w, ?_, ?_, ?_, ?_⟩)))⟩
    · rw [w 7 (by decide) (by decide)]; exact k2
    · rw [gx 2 (by decide) (by decide), g0 2 (by decide) (by decide), w 9 (by decide) (by decide)]; simp [zup4_v]
    · rw [gx 3 (by decide) (by decide), g0 3 (by decide) (by decide), mvV_c w]; simp [zup4_v, mvV]
    · rw [show j + 2 = j + 1 + 1 by omega]; exact bk
  · have er := PS_err2 hE hS1
    rw [if_neg k2, C_refuse hX1, L_252w (by decide) (by decide) (by first | decide | omega) (by decide) (by first | decide | omega) hg1 hM1 k2 hBd]
    simp only [zb_s]
    rw [if_pos (by decide)]
    simp only [zb_s]
    rw [if_pos (by decide), L_202 (by first | decide | omega)]
    exact zP_s ⟨fF_e gF, fG_e gG, fB_r, fH_u fH_r (by decide) (by decide) (Int.le_refl _), Or.inr ⟨rfl, er⟩⟩
theorem P_move {L : Int} {d : Nat} {K : zK} {Km : Nat} {N j x : Int} {o o' : oT_CP} {om om' : oT_P} {F : zF} {B : zB} {Fm : zF} {Bm : zB} (hx : 0 ≤ x ∧ x < 3000) (hxi : x + 1 = F 3 0 14) (hij : F 3 0 14 ≤ j + 1) (hE : EV K Km N B Bm) (hS : PS N j F B Fm Bm) (hd : F 3 0 18 + d = 8) (hdp : 1 ≤ F 3 0 18) (hLT : LT L F B Fm Bm) (hF : fresh B Bm x j 6) (wd : wdAt Bm j 1836021349) (ho : ∀ F B, om.2.2.2 F B = fb_M_itemOfWord om' Km F B) (hoc : ∀ l0 l1 F B, o.2.2.2.2.2.2.1 l0 l1 F B = fb_Parser_takeMove o' K l0 l1 F B) (hBk : BlkSim L K Km N d o'.1 om'.1) (hBd : BlkBad om'.1) : zP (fb_Parser_takeItem o K 0 x F B) (fb_M_item om Km Fm Bm) (fun r F' B' _ Fm' Bm' => IPO L d N j x F B Fm Bm r F' B' Fm' Bm') := by
  have hM := PS_MX hE hS
  have h4 := wd.1
  have jj := hS.2.1.1
  have nn := hE.1.2.1
  have km := hE.2.2.2.2.2.2
  have k3 := hE.2.2.2.1
  have k10 := hE.2.2.2.2.1
  have t : ∀ c, r64 c → f_M_isWord Km c Fm Bm = some (if 1836021349 = c then 1 else 0, Fm, Bm) := fun c hc => L_wd hM wd hc
  have hS1 := PS_step hE hS (by first | decide | omega)
  have hX1 := PS_CX hE hS1
  have hM1 := PS_MX hE hS1
  have hg1 := hS1.2.2.2.1
  have e11 := hS1.1
  have a14 : (advF F B) 3 0 14 = F 3 0 14 := advF_o (by decide)
  have a15 : (advF F B) 3 0 15 = F 3 0 15 := advF_o (by decide)
  have a18 : (advF F B) 3 0 18 = F 3 0 18 := advF_o (by decide)
  have gF : fF F (advF F B) := fF_a fF_r
  have gG : fG Fm (zup3 Fm 14 0 16 (j + 1)) := fG_u fG_r (by decide) (by decide)
  obtain ⟨kk, rfl⟩ : ∃ y, Km = y + 1 + 1 + 1 := ⟨Km - 3, (by first | decide | omega)⟩
  rw [C_itemM (PS_CX hE hS) hx hF.1, L_itemW hM wd ho]
  unfold fb_M_itemOfWord f_M_itemOfWord_224 f_M_itemOfWord_239
  simp only [t 114 (by decide), t 125780002955636 (by decide), t 7697253 (by decide), t 1836021349 (by decide), zb_s, ir0, ir1, if_true, if_false, Int.reduceEq, hM.1]
  rw [hoc]
  unfold fb_Parser_takeMove
  rw [if_pos ⟨(by first | decide | omega), k3⟩, e11, if_pos ⟨(by first | decide | omega), k10⟩, if_pos (by have := hX1.2.2.2.1; omega), hS1.2.1.2.1]
  by_cases k2 : Bm 14 0 7 (j + 1) = 2
  · obtain ⟨s3, s4⟩ := hS1.2.1.2.2.2.2.1 k2
    have tk := hE.1.2.2 (j + 1) hS1.2.1.1.1 hS1.2.1.1.2
    obtain ⟨_, v1, v2, v3, v4⟩ := tk.2.2.2.2.1 k2
    have hS2 := PS_step hE hS1 (by first | decide | omega)
    have hX2 := PS_CX hE hS2
    have hM2 := PS_MX hE hS2
    have hg2 := hS2.2.2.2.1
    rw [if_pos k2, s3, C_nat v1 v2, L_252p (by decide) (by decide) (by first | decide | omega) hg1 hM1 k2]
    simp only [zb_s]
    rw [e11, if_pos ⟨(by first | decide | omega), k10⟩, s4, C_adv hX1]
    simp only [zb_s]
    rw [hS2.1, if_pos ⟨(by first | decide | omega), k10⟩, if_pos (by have := hX2.2.2.2.1; omega), hS2.2.1.2.1]
    by_cases k4 : Bm 14 0 7 (j + 1 + 1) = 2
    · obtain ⟨s5, s6⟩ := hS2.2.1.2.2.2.2.1 k4
      have tk2 := hE.1.2.2 (j + 1 + 1) hS2.2.1.1.1 hS2.2.1.1.2
      obtain ⟨_, w1, w2, w3, w4⟩ := tk2.2.2.2.2.1 k4
      have hXA : fX [2, 3] x (F 3 0 15) B (zup4 B 3 0 2 x (Bm 14 0 9 (j + 1 + 1) - Bm 14 0 9 (j + 1))) := fX_u fX_r (Or.inl ⟨by decide, rfl⟩)
      have hXB : fX [2, 3] x (F 3 0 15) B (zup4 (zup4 B 3 0 2 x (Bm 14 0 9 (j + 1 + 1) - Bm 14 0 9 (j + 1))) 3 0 3 x ((tnv (Bm 14 0 9 (j + 1 + 1)) + Bm 14 0 10 (j + 1 + 1)) - (tnv (Bm 14 0 9 (j + 1)) + Bm 14 0 10 (j + 1)))) := fX_u hXA (Or.inl ⟨by decide, rfl⟩)
      have hB2 := fX_B (lo := x) hXB (by decide) (Int.le_refl _)
      have hE2 := EV_f hE hB2 (fH_r (fr := 0))
      have hS2' := PS_f hS2 hB2 (fH_r (fr := 0))
      have hS3 := PS_step hE2 hS2' (by first | decide | omega)
      rw [if_pos k4, if_pos hx, s5, C_nat w1 w2, L_252p (by decide) (by decide) (by first | decide | omega) hg2 hM2 k4, show (0 : Int) + 1 + 1 = 2 from rfl, L_252e (by decide)]
      simp only [zb_s]
      rw [hS2.1, if_pos ⟨(by first | decide | omega), k10⟩, s6, C_adv (CX_b (CX_b hX2))]
      simp only [zb_s, zb_a]
      have gF1 : fF F (advF (advF (advF F B) B) (zup4 (zup4 B 3 0 2 x (Bm 14 0 9 (j + 1 + 1) - Bm 14 0 9 (j + 1))) 3 0 3 x ((tnv (Bm 14 0 9 (j + 1 + 1)) + Bm 14 0 10 (j + 1 + 1)) - (tnv (Bm 14 0 9 (j + 1)) + Bm 14 0 10 (j + 1))))) := fF_a (fF_a gF)
      have gG1 : fG Fm (zup3 (zup3 (zup3 Fm 14 0 16 (j + 1)) 14 0 16 (j + 1 + 1)) 14 0 16 (j + 1 + 1 + 1)) := fG_u (fG_u gG (by decide) (by decide)) (by decide) (by decide)
      have hLT1 := LT_k (fr := 0) (j := 0) hLT gF1 gG1 (fB_K hB2) (by decide) (fJ_H fH_r (Int.le_refl _))
      have b14 : (advF (advF (advF F B) B) (zup4 (zup4 B 3 0 2 x (Bm 14 0 9 (j + 1 + 1) - Bm 14 0 9 (j + 1))) 3 0 3 x ((tnv (Bm 14 0 9 (j + 1 + 1)) + Bm 14 0 10 (j + 1 + 1)) - (tnv (Bm 14 0 9 (j + 1)) + Bm 14 0 10 (j + 1))))) 3 0 14 = F 3 0 14 := by rw [advF_o (by decide), advF_o (by decide)]; exact a14
      have b15 : (advF (advF (advF F B) B) (zup4 (zup4 B 3 0 2 x (Bm 14 0 9 (j + 1 + 1) - Bm 14 0 9 (j + 1))) 3 0 3 x ((tnv (Bm 14 0 9 (j + 1 + 1)) + Bm 14 0 10 (j + 1 + 1)) - (tnv (Bm 14 0 9 (j + 1)) + Bm 14 0 10 (j + 1))))) 3 0 15 = F 3 0 15 := by rw [advF_o (by decide), advF_o (by decide)]; exact a15
      have b18 : (advF (advF (advF F B) B) (zup4 (zup4 B 3 0 2 x (Bm 14 0 9 (j + 1 + 1) - Bm 14 0 9 (j + 1))) 3 0 3 x ((tnv (Bm 14 0 9 (j + 1 + 1)) + Bm 14 0 10 (j + 1 + 1)) - (tnv (Bm 14 0 9 (j + 1)) + Bm 14 0 10 (j + 1))))) 3 0 18 = F 3 0 18 := by rw [advF_o (by decide), advF_o (by decide)]; exact a18
      refine zP_c (hBk (x := x) (j := j + 1 + 1 + 1) hx.1 (by first | decide | omega) (by first | decide | omega) hE2 hS3 (by first | decide | omega) (PS_pw hS3 (by first | decide | omega)) hLT1 (by rw [fX_3 hXB (by decide) (by decide)]; exact hF.2.2.2.2.1)) (fun r F' B' r' Fm' Bm' hh => ?_)
      have hr := BPO_r hh
      rw [if_pos hr]
      simp only [zb_s]
      rw [if_pos hr, L_202 (by first | decide | omega)]
      refine zP_s (IPO_B (j := j) hh hE.1.2.1 (by first | decide | omega) hxi gF1 gG1 hB2 b14 b15 b18 (by rw [fX_3 hXB (by decide) (by decide)]; exact hF.2.2.2.2.2.1) ?_ hr)
      intro j' n Bx By _ _ _ bk _ _ _ gx w g0
      obtain ⟨p1, p0⟩ := IRn_at hF gx w (fun k hk => by rw [g0 k (by first | decide | omega) (by first | decide | omega), fX_3 hXB (by simp; omega) (by first | decide | omega)]) (R := IRd L (d - 1))
      refine ⟨p1, Or.inr (Or.inr (Or.inl ⟨p0, wdAt_c wd w, ?_, ?_, ?_, ?_, ?_⟩))⟩
      · rw [w 7 (by decide) (by decide)]; exact k2
      · rw [w 7 (by decide) (by decide), show j + 2 = j + 1 + 1 by omega]; exact k4
      · rw [gx 2 (by decide) (by decide), g0 2 (by decide) (by decide), w 9 (by decide) (by decide), show j + 2 = j + 1 + 1 by omega]; simp [zup4_v]
      · rw [gx 3 (by decide) (by decide), g0 3 (by decide) (by decide), mvV_c w, mvV_c w, show j + 2 = j + 1 + 1 by omega]; simp [zup4_v, mvV]
      · rw [show j + 3 = j + 1 + 1 + 1 by omega]; exact bk
    · have er := PS_err2 hE hS2
      rw [if_neg k4, C_refuse hX2, L_252w (by decide) (by decide) (by first | decide | omega) (by decide) (by first | decide | omega) hg2 hM2 k4 hBd]
      simp only [zb_s]
      rw [if_pos (by decide)]
      simp only [zb_s]
      rw [if_pos (by decide), L_202 (by first | decide | omega)]
      exact zP_s ⟨fF_e (fF_a gF), fG_e (fG_u gG (by decide) (by decide)), fB_r, fH_u fH_r (by decide) (by decide) (Int.le_refl _), Or.inr ⟨rfl, er⟩⟩
  · have er := PS_err2 hE hS1
    rw [if_neg k2, C_refuse hX1, L_252w (by decide) (by decide) (by first | decide | omega) (by decide) (by first | decide | omega) hg1 hM1 k2 hBd]
    simp only [zb_s]
    rw [if_pos (by decide)]
    simp only [zb_s]
    rw [if_pos (by decide), L_202 (by first | decide | omega)]
    exact zP_s ⟨fF_e gF, fG_e gG, fB_r, fH_u fH_r (by decide) (by decide) (Int.le_refl _), Or.inr ⟨rfl, er⟩⟩
end
end
section
section
/-! ===== bar lines, loudness, uses, on both sides ===== -/
theorem L_sg {Km : Nat} {Fm : zF} {Bm : zB} {j w c : Int} (hM : MX Fm Bm j) (h : sgAt Bm j w) (hc : r32 c) : f_M_isSign Km c Fm Bm = some (if w = c then 1 else 0, Fm, Bm) := by
  rw [L_isSign hM hc]
  unfold sgm
  rw [h.1, h.2]
  by_cases e : w = c
  · rw [if_pos ⟨rfl, e⟩, if_pos e]
  · rw [if_neg (fun z => e z.2), if_neg e]
theorem fdR_n {row : Int → Int} {m w : Int} : ∀ {f : Nat} {k : Int}, 0 ≤ k → ∀ p, k ≤ p → p < fdR row m w f k → ¬ row p = w := by
  intro f
  induction f with
  | zero => intro k h0 p a b; unfold fdR at b; omega
  | succ f ih =>
    intro k h0 p a b
    unfold fdR at b
    by_cases h : m ≤ k
    · rw [if_pos h] at b; omega
    · rw [if_neg h] at b
      by_cases q : row k = w
      · rw [if_pos q] at b; omega
      · rw [if_neg q] at b
        by_cases e : p = k
        · rw [e]; exact q
        · exact ih (by first | decide | omega) p (by first | decide | omega) b
theorem IPO_l {L : Int} {d : Nat} {N j x j' : Int} {F : zF} {B : zB} {Fm : zF} {Bm : zB} {F' : zF} {B' : zB} {Fm' : zF} (hx : x < F 3 0 14) (hj : j < j') (gF : fF F F') (gG : fG Fm Fm') (gX : fX [2] x (F 3 0 15) B B') (hS : PS N j' F' B' Fm' Bm) (e14 : F' 3 0 14 = F 3 0 14) (e15 : F' 3 0 15 = F 3 0 15) (e18 : F' 3 0 18 = F 3 0 18) (h5 : B 3 0 5 x = -1) (hI : ∀ Bx By, (∀ k, k ≤ 7 → k ≠ 5 → Bx 3 0 k x = B' 3 0 k x) → (∀ k, 7 ≤ k → k ≤ 11 → By 14 0 k = Bm 14 0 k) → (∀ q, 0 ≤ q → q < L → Bx 3 0 13 q = B 3 0 13 q ∧ By 14 0 25 q = Bm 14 0 25 q) → IRl L Bx By x j) : IPO L d N j x F B Fm Bm 1 F' B' Fm' (zup4 Bm 14 0 31 j (Fm' 14 0 16)) := by
  have hH : fH j Bm (zup4 Bm 14 0 31 j (Fm' 14 0 16)) := fH_u fH_r (by decide) (by decide) (Int.le_refl _)
  refine ⟨gF, gG, fX_B gX (by decide) (Int.le_refl _), hH, Or.inl ⟨rfl, Or.inl ⟨j', hj, PS_f (lo := 0) (pl := 0) hS fB_r hH, ?_, e18, (by first | decide | omega), (by first | decide | omega), ?_, ?_⟩⟩⟩
  · simp [zup4_v]; exact hS.2.2.1
  · rw [fX_3 gX (by decide) (by decide)]; exact h5
  · intro Bx By a b
    refine IRd_l (hI Bx By (fun k p q => a.1 k x p (Int.le_refl _) (by first | decide | omega) (fun z => q z.1)) (fun k p q => ?_) (fun q p r => ⟨?_, ?_⟩))
    · rw [b.2.1 k p q, fH_k hH k (by first | decide | omega)]
    · rw [a.2.2 q p r]; exact gX 3 0 13 q (fun z => absurd z.2.2.1 (by decide)) (fun z => absurd z.2.2.2.1 (by decide))
    · rw [b.2.2 q p r, fH_k hH 25 (by decide)]
theorem P_bar {L : Int} {d : Nat} {K : zK} {Km : Nat} {N j x : Int} {o : oT_CP} {om : oT_P} {F : zF} {B : zB} {Fm : zF} {Bm : zB} (hx : 0 ≤ x ∧ x < 3000) (hxi : x + 1 = F 3 0 14) (hE : EV K Km N B Bm) (hS : PS N j F B Fm Bm) (hF : fresh B Bm x j 1) (sg : sgAt Bm j 124) : zP (fb_Parser_takeItem o K 0 x F B) (fb_M_item om Km Fm Bm) (fun r F' B' _ Fm' Bm' => IPO L d N j x F B Fm Bm r F' B' Fm' Bm') := by
  have hM := PS_MX hE hS
  have h5 := sg.1
  have jj := hS.2.1.1
  have nn := hE.1.2.1
  have t : ∀ c, r32 c → f_M_isSign Km c Fm Bm = some (if 124 = c then 1 else 0, Fm, Bm) := fun c hc => L_sg hM sg hc
  rw [C_item1 (PS_CX hE hS) hx hF.1]
  unfold fb_M_item
  rw [hM.1, if_pos (by first | decide | omega), if_pos (by first | decide | omega), if_neg (by first | decide | omega)]
  simp only [t 60 (by decide), t 124 (by decide), zb_s, ir0, ir1, if_true, if_false, Int.reduceEq, hM.1]
  rw [L_202 (by first | decide | omega)]
  refine zP_s (IPO_l (j' := j + 1) (by first | decide | omega) (by first | decide | omega) (fF_a fF_r) (fG_u fG_r (by decide) (by decide)) fX_r (PS_step hE hS (by first | decide | omega)) (advF_o (by decide)) (advF_o (by decide)) (advF_o (by decide)) hF.2.2.2.2.2.1 ?_)
  intro Bx By gx w _
  obtain ⟨p1, p0⟩ := IRn_at (R := IRd L d) hF gx w (fun _ _ => rfl)
  exact ⟨p1, Or.inr (Or.inl ⟨p0, sgAt_c sg w⟩)⟩
theorem P_loud {L : Int} {d : Nat} {K : zK} {Km : Nat} {N j x : Int} {o : oT_CP} {om : oT_P} {F : zF} {B : zB} {Fm : zF} {Bm : zB} (hx : 0 ≤ x ∧ x < 3000) (hxi : x + 1 = F 3 0 14) (hE : EV K Km N B Bm) (hS : PS N j F B Fm Bm) (hF : fresh B Bm x j 2) (sg : sgAt Bm j 33) : zP (fb_Parser_takeItem o K 0 x F B) (fb_M_item om Km Fm Bm) (fun r F' B' _ Fm' Bm' => IPO L d N j x F B Fm Bm r F' B' Fm' Bm') := by
  have hM := PS_MX hE hS
  have h5 := sg.1
  have jj := hS.2.1.1
  have nn := hE.1.2.1
  have km := hE.2.2.2.2.2.2
  have t : ∀ c, r32 c → f_M_isSign Km c Fm Bm = some (if 33 = c then 1 else 0, Fm, Bm) := fun c hc => L_sg hM sg hc
  have hS1 := PS_step hE hS (by first | decide | omega)
  have hX1 := PS_CX hE hS1
  have hM1 := PS_MX hE hS1
  have hg1 := hS1.2.2.2.1
  have jj1 := hS1.2.1.1
  have ek := hS1.2.1.2.1
  have ev := hS1.2.1.2.2.2.1
  have tk := hE.1.2.2 (j + 1) jj1.1 jj1.2
  have cl := C_takeLoud (x := x) hX1 hx
  have lb := fiL_b (w := Bm 14 0 11 (j + 1)) (L := wL)
  have ll : wL.length = 8 := rfl
  rw [C_itemL (PS_CX hE hS) hx hF.1]
  unfold fb_M_item f_M_item_142
  rw [hM.1, if_pos (by first | decide | omega), if_pos (by first | decide | omega), if_neg (by first | decide | omega)]
  simp only [t 60 (by decide), t 124 (by decide), t 33 (by decide), zb_s, ir0, ir1, if_true, if_false, Int.reduceEq, hM.1]
  rw [if_pos (show 0 ≤ j + 1 ∧ j + 1 < 3001 by omega), if_pos (show r32 (Bm 14 0 7 (j + 1)) by have := hM1.2.2.1; omega)]
  have fail : ∀ {r : zO}, f_Parser_takeLoud K 0 x (advF F B) B = some (0, refF (advF F B) 2, B) → r = zbind (f_M_wrong Km (zup3 Fm 14 0 16 (j + 1)) Bm) (fun r40 F40 B40 => f_M_item_202 om Km j F40 B40) → zP (zbind (f_Parser_takeLoud K 0 x (advF F B) B) (fun r F B => if (r = 0 ∨ r = 1) then some (r, F, B) else none)) r (fun r F' B' _ Fm' Bm' => IPO L d N j x F B Fm Bm r F' B' Fm' Bm') := by
    intro r h1 h2
    have er := PS_err2 hE hS1
    rw [h1, h2, L_wrong hg1 hM1]
    simp only [zb_s]
    rw [if_pos (by decide), L_202 (by first | decide | omega)]
    exact zP_s ⟨fF_e (fF_a fF_r), fG_e (fG_u fG_r (by decide) (by decide)), fB_r, fH_u fH_r (by decide) (by decide) (Int.le_refl _), Or.inr ⟨rfl, er⟩⟩
  by_cases k4 : Bm 14 0 7 (j + 1) = 4
  · have w4 := hM1.2.2.2.2 k4
    have e2 : (advF F B) 10 0 2 = Bm 14 0 11 (j + 1) := by rw [ev]; exact (tk.2.2.2.2.2.2.1 k4).1
    rw [if_pos k4, L_fL km hE.2.1 (by first | decide | omega)]
    simp only [zb_s]
    rw [if_pos (show r32 (fiL wL (Bm 14 0 11 (j + 1)) 0) by omega)]
    by_cases m : Bm 14 0 11 (j + 1) ∈ wL
    · have f0 : ¬ fiL wL (Bm 14 0 11 (j + 1)) 0 = -1 := fun z => fiL_n.mp z m
      rw [if_pos (show 0 ≤ fiL wL (Bm 14 0 11 (j + 1)) 0 by omega), cl.1 (by rw [ek]; exact k4) (by rw [e2]; exact m), e2]
      simp only [zb_s]
      rw [if_pos (by decide), L_202 (by first | decide | omega)]
      have hX2 : fX [2] x (F 3 0 15) B (zup4 B 3 0 2 x (fiL wL (Bm 14 0 11 (j + 1)) 0)) := fX_u fX_r (Or.inl ⟨by decide, rfl⟩)
      have hB2 := fX_B (lo := x) hX2 (by decide) (Int.le_refl _)
      have e16 : (zup3 Fm 14 0 16 (j + 1)) 14 0 16 + 1 = j + 1 + 1 := by simp [zup3_v]
      rw [e16]
      refine zP_s (IPO_l (j' := j + 1 + 1) (by first | decide | omega) (by first | decide | omega) (fF_a (fF_a fF_r)) (fG_u (fG_u fG_r (by decide) (by decide)) (by decide) (by decide)) hX2 (PS_f (PS_step hE hS1 (by first | decide | omega)) hB2 (fH_r (fr := 0))) ?_ ?_ ?_ hF.2.2.2.2.2.1 ?_)
      · rw [advF_o (by decide), advF_o (by decide)]
      · rw [advF_o (by decide), advF_o (by decide)]
      · rw [advF_o (by decide), advF_o (by decide)]
      · intro Bx By gx w _
        obtain ⟨p1, p0⟩ := IRn_at (R := IRd L d) hF gx w (fun k hk => by rw [fX_3 hX2 (by simp; omega) (by first | decide | omega)])
        refine ⟨p1, Or.inr (Or.inr (Or.inl ⟨p0, sgAt_c sg w, ?_, ?_⟩))⟩
        · rw [gx 2 (by decide) (by decide), w 11 (by decide) (by decide)]; simp [zup4_v]
        · rw [gx 2 (by decide) (by decide)]; simp [zup4_v]; omega
    · have f0 : fiL wL (Bm 14 0 11 (j + 1)) 0 = -1 := fiL_n.mpr m
      rw [if_neg (show ¬ 0 ≤ fiL wL (Bm 14 0 11 (j + 1)) 0 by omega)]
      exact fail (cl.2 (fun z => m (by rw [e2] at z; exact z.2))) rfl
  · rw [if_neg k4]
    exact fail (cl.2 (fun z => k4 (by rw [ek] at z; exact z.1))) rfl
end
end
