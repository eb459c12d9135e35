section
/-! ===== the text of a note, the reference ===== -/
theorem rptT_l {c : Int} : ∀ d : Nat, (rptT c d).length = d := by
  intro d
  induction d with
  | zero => rfl
  | succ d ih => rw [rptT, List.length_cons, ih]
theorem decT_l {v : Int} : (decT v).length ≤ 3 ∧ 1 ≤ (decT v).length := by
  unfold decT
  split
  · simp
  · split <;> simp
theorem if_l {c : Prop} [Decidable c] {x : Int} : (if c then [x] else ([] : List Int)).length ≤ 1 := by
  split <;> simp
theorem pitT_l {s a : Int} (ha : -7 ≤ a ∧ a ≤ 7) : (pitT s a).length ≤ 9 := by
  unfold pitT
  rw [List.length_cons, List.length_append, rptT_l, List.length_singleton]
  split <;> omega
theorem chT_l {st al : Int → Int} : ∀ (d : Nat) (k : Int), (∀ j, k ≤ j → j < k + d → -7 ≤ al j ∧ al j ≤ 7) → (chT st al d k).length ≤ 10 * d := by
  intro d
  induction d with
  | zero => intro k _; exact Nat.zero_le _
  | succ d ih =>
    intro k h
    have := ih (k + 1) (fun j a b => h j (by first | decide | omega) (by first | decide | omega))
    have p := pitT_l (s := st k) (h k (by first | decide | omega) (by first | decide | omega))
    have i := if_l (c := 0 < k) (x := 32)
    rw [chT, List.length_append, List.length_append]
    omega
section
variable {Km : Nat} {q : zF × zB} {w v i m vv last : Int} {st al : Int → Int}
theorem M_161 {rec' : Int → Int → Int → Int → Int → zF → zB → zO} {s a l7 l6 l5 l4 l3 : Int} (hK : 200 ≤ Km) (hs : 0 ≤ s ∧ s ≤ 62) (ha : -7 ≤ a ∧ a ≤ 7) : ∀ (d n : Nat) (k : Int) (T : List Int) (F : zF) (B : zB), k + d = (if 0 < a then 0 else -a) → 0 ≤ k → d < n → T.length < 15000 - d → TM q T F B → ∃ F' B', f_M_downNote_161 rec' Km n k a s l7 l6 l5 l4 l3 F B = rec' (l7 + 1) l6 l5 l4 l3 F' B' ∧ TM q (T ++ (rptT 98 d ++ [48 + s / 7])) F' B' := by
  have zd : zdv s 7 = s / 7 := zdv_e hs.1 (by unfold r32; omega) (by decide) (by decide)
  intro d
  induction d with
  | zero =>
    intro n k T F B e k0 hn hl h
    obtain ⟨p, rfl⟩ : ∃ p, n = p + 1 := ⟨n - 1, (by first | decide | omega)⟩
    obtain ⟨F1, B1, e1, w1⟩ := M_dec (Km := Km) (v := s / 7) hK (by first | decide | omega) (by first | decide | omega) h
    have dt : decT (s / 7) = [48 + s / 7] := by unfold decT; rw [if_pos (by first | decide | omega), show s / 7 % 10 = s / 7 by omega]
    rw [dt] at w1
    refine ⟨F1, B1, ?_, w1⟩
    rw [f_M_downNote_161, if_pos (by unfold r32; split at e <;> omega), if_pos (by unfold r32; omega), if_pos (by split at e <;> omega), zd, e1, zb_s]
  | succ d ih =>
    intro n k T F B e k0 hn hl h
    obtain ⟨p, rfl⟩ : ∃ p, n = p + 1 := ⟨n - 1, (by first | decide | omega)⟩
    obtain ⟨F1, B1, e1, w1⟩ := M_pt (Km := Km) (a := 98) (by first | decide | omega) h
    obtain ⟨F2, B2, e2, w2⟩ := ih p (k + 1) _ F1 B1 (by first | decide | omega) (by first | decide | omega) (by first | decide | omega) (by rw [List.length_append, List.length_singleton]; omega) w1
    refine ⟨F2, B2, ?_, ?_⟩
    · rw [f_M_downNote_161, if_pos (by unfold r32; split at e <;> omega), if_pos (by unfold r32; omega), if_neg (by split at e <;> omega), e1, zb_s]
      exact e2
    · rw [List.append_assoc] at w2
      exact w2
theorem M_139 {rec' : Int → Int → Int → Int → Int → zF → zB → zO} {s a l7 l6 l5 l4 l3 : Int} (hK : 200 ≤ Km) (hs : 0 ≤ s ∧ s ≤ 62) (ha : -7 ≤ a ∧ a ≤ 7) : ∀ (d n : Nat) (k : Int) (T : List Int) (F : zF) (B : zB), k + d = (if 0 < a then a else 0) → 0 ≤ k → d < n → T.length < 14900 - d → TM q T F B → ∃ F' B', f_M_downNote_139 rec' Km n k a s l7 l6 l5 l4 l3 F B = rec' (l7 + 1) l6 l5 l4 l3 F' B' ∧ TM q (T ++ (rptT 35 d ++ (rptT 98 (if 0 < a then 0 else -a).toNat ++ [48 + s / 7]))) F' B' := by
  intro d
  induction d with
  | zero =>
    intro n k T F B e k0 hn hl h
    obtain ⟨p, rfl⟩ : ∃ p, n = p + 1 := ⟨n - 1, (by first | decide | omega)⟩
    obtain ⟨F1, B1, e1, w1⟩ := M_161 (rec' := rec') (l7 := l7) (l6 := l6) (l5 := l5) (l4 := l4) (l3 := l3) hK hs ha (if 0 < a then 0 else -a).toNat Km 0 T F B (by split <;> omega) (by first | decide | omega) (by split <;> omega) (by split <;> omega) h
    refine ⟨F1, B1, ?_, w1⟩
    rw [f_M_downNote_139, if_pos (by unfold r32; split at e <;> omega), if_pos (by unfold r32; omega), if_pos (by split at e <;> omega), e1]
  | succ d ih =>
    intro n k T F B e k0 hn hl h
    obtain ⟨p, rfl⟩ : ∃ p, n = p + 1 := ⟨n - 1, (by first | decide | omega)⟩
    obtain ⟨F1, B1, e1, w1⟩ := M_pt (Km := Km) (a := 35) (by first | decide | omega) h
    obtain ⟨F2, B2, e2, w2⟩ := ih p (k + 1) _ F1 B1 (by first | decide | omega) (by first | decide | omega) (by first | decide | omega) (by rw [List.length_append, List.length_singleton]; omega) w1
    refine ⟨F2, B2, ?_, ?_⟩
    · rw [f_M_downNote_139, if_pos (by unfold r32; split at e <;> omega), if_pos (by unfold r32; omega), if_neg (by split at e <;> omega), e1, zb_s]
      exact e2
    · rw [List.append_assoc] at w2
      exact w2
theorem pit_e {s a : Int} : zsc 47 (s % 7) :: (rptT 35 (if 0 < a then a else 0).toNat ++ (rptT 98 (if 0 < a then 0 else -a).toNat ++ [48 + s / 7])) = pitT s a := by
  unfold pitT
  by_cases z : 0 < a
  · rw [if_pos z, if_pos z, if_pos z, if_pos z]; rfl
  · rw [if_neg z, if_neg z, if_neg z, if_neg z]; rfl
theorem M_121 {rec' : Int → Int → Int → Int → Int → zF → zB → zO} {s a l7 l6 l5 l4 l3 : Int} {T : List Int} {F : zF} {B : zB} (hK : 200 ≤ Km) (hs : 0 ≤ s ∧ s ≤ 62) (ha : -7 ≤ a ∧ a ≤ 7) (hl : T.length < 14000) (h : TM q T F B) : ∃ F' B', f_M_downNote_121 rec' Km a s l7 l6 l5 l4 l3 F B = rec' (l7 + 1) l6 l5 l4 l3 F' B' ∧ TM q (T ++ pitT s a) F' B' := by
  have l47 : zsl 47 = 7 := by decide
  have zr : zrm s 7 = s % 7 := zrm_e hs.1 (by unfold r32; omega) (by decide) (by decide)
  obtain ⟨F1, B1, e1, w1⟩ := M_pt (Km := Km) (a := zsc 47 (s % 7)) (by first | decide | omega) h
  obtain ⟨F2, B2, e2, w2⟩ := M_139 (rec' := rec') (l7 := l7) (l6 := l6) (l5 := l5) (l4 := l4) (l3 := l3) hK hs ha (if 0 < a then a else 0).toNat Km 0 _ F1 B1 (by split <;> omega) (by first | decide | omega) (by split <;> omega) (by rw [List.length_append, List.length_singleton]; split <;> omega) w1
  refine ⟨F2, B2, ?_, ?_⟩
  · unfold f_M_downNote_121
    rw [zr, L_schar (by decide) (by first | decide | omega) (by first | decide | omega) (by first | decide | omega), zb_s, e1, zb_s, e2]
  · rw [List.append_assoc, List.singleton_append, pit_e] at w2
    exact w2
theorem M_67 {x l4 : Int} (hK : 200 ≤ Km) (hw : q.1 14 0 6 = w ∧ 0 ≤ w ∧ w < 3) (hx : 0 < m → 0 ≤ x ∧ x < 4000) (hm : 0 ≤ m ∧ m ≤ 6) (hp : ∀ k, 0 ≤ k → k < m → q.2 13 w 28 (6 * x + k) = st k ∧ q.2 13 w 29 (6 * x + k) = al k ∧ (0 ≤ st k ∧ st k ≤ 62) ∧ (-7 ≤ al k ∧ al k ≤ 7)) : ∀ (d n : Nat) (k : Int) (T : List Int) (F : zF) (B : zB), k + d = m → 0 ≤ k → d < n → T.length < 13000 - 10 * d → TM q T F B → ∃ F' B', f_M_downNote_67 Km n k m x l4 last F B = f_M_downNote_208 Km m l4 last F' B' ∧ TM q (T ++ (chT st al d k ++ (if 1 < m then [62] else []))) F' B' := by
  intro d
  induction d with
  | zero =>
    intro n k T F B e k0 hn hl h
    obtain ⟨p, rfl⟩ : ∃ p, n = p + 1 := ⟨n - 1, (by first | decide | omega)⟩
    rw [f_M_downNote_67, if_pos (by unfold r32; omega), if_pos (by unfold r32; omega), if_pos (by first | decide | omega), chT]
    by_cases z : m ≤ 1
    · rw [if_pos z, if_neg (show ¬ 1 < m by omega), List.nil_append, List.append_nil]
      exact ⟨F, B, rfl, h⟩
    · obtain ⟨F1, B1, e1, w1⟩ := M_pt (Km := Km) (a := 62) (by first | decide | omega) h
      rw [if_neg z, if_pos (show 1 < m by omega), e1, zb_s, List.nil_append]
      exact ⟨F1, B1, rfl, w1⟩
  | succ d ih =>
    intro n k T F B e k0 hn hl h
    obtain ⟨p, rfl⟩ : ∃ p, n = p + 1 := ⟨n - 1, (by first | decide | omega)⟩
    obtain ⟨p1, p2, p3, p4⟩ := hp k k0 (by first | decide | omega)
    have f6 : F 14 0 6 = w := by rw [h.2.1 14 0 6 (by first | decide | omega)]; exact hw.1
    have hx' := hx (by first | decide | omega)
    obtain ⟨F1, B1, e1, w1⟩ : ∃ F1 B1, (if k ≤ 0 then f_M_downNote_121 (f_M_downNote_67 Km p) Km (al k) (st k) k m x l4 last F B else zbind (f_M_put_0 Km 32 F B) (fun r21 F21 B21 => f_M_downNote_121 (f_M_downNote_67 Km p) Km (al k) (st k) k m x l4 last F21 B21)) = f_M_downNote_121 (f_M_downNote_67 Km p) Km (al k) (st k) k m x l4 last F1 B1 ∧ TM q (T ++ (if 0 < k then [32] else [])) F1 B1 := by
      by_cases z : k ≤ 0
      · rw [if_pos z, if_neg (by first | decide | omega), List.append_nil]; exact ⟨F, B, rfl, h⟩
      · obtain ⟨F1, B1, e1, w1⟩ := M_pt (Km := Km) (a := 32) (by first | decide | omega) h
        rw [if_neg z, if_pos (by first | decide | omega), e1, zb_s]; exact ⟨F1, B1, rfl, w1⟩
    have il := if_l (c := 0 < k) (x := 32)
    have pl := pitT_l (s := st k) p4
    obtain ⟨F2, B2, e2, w2⟩ := M_121 (rec' := f_M_downNote_67 Km p) (l7 := k) (l6 := m) (l5 := x) (l4 := l4) (l3 := last) hK p3 p4 (by rw [List.length_append]; omega) w1
    obtain ⟨F3, B3, e3, w3⟩ := ih p (k + 1) _ F2 B2 (by first | decide | omega) (by first | decide | omega) (by first | decide | omega) (by rw [List.length_append, List.length_append]; omega) w2
    refine ⟨F3, B3, ?_, ?_⟩
    · rw [f_M_downNote_67, if_pos (by unfold r32; omega), if_pos (by unfold r32; omega), if_neg (by first | decide | omega), f6, if_pos hw.2, if_pos (by first | decide | omega), h.2.2 13 w 28 _ (by first | decide | omega), h.2.2 13 w 29 _ (by first | decide | omega), p1, p2, e1, e2, e3]
    · rw [chT]
      simp only [List.append_assoc] at w3 ⊢
      exact w3
theorem M_233 {l4 : Int} (hw : q.1 14 0 6 = w ∧ 0 ≤ w ∧ w < 3) (h4 : 0 ≤ l4 ∧ l4 < 3200) (hm : 0 ≤ m ∧ m ≤ 6) (hv : 0 ≤ vv ∧ vv < 24) (h35 : q.2 13 w 35 l4 = 2 - vv % 3) (hl : last = 0 ∨ last = 1) (hn : last = 0 → l4 + 1 < 3200 ∧ r32 (q.2 13 w 30 (l4 + 1)) ∧ r32 (q.2 13 w 30 l4) ∧ r32 (q.2 13 w 31 (l4 + 1)) ∧ r32 (q.2 13 w 31 l4)) : ∀ (d n : Nat) (k : Int) (T : List Int) (F : zF) (B : zB), k + d = 2 - vv % 3 → 0 ≤ k → d < n → T.length < 13500 - d → TM q T F B → ∃ F' B', f_M_downNote_233 Km n k m l4 last F B = some (0, F', B') ∧ TM q (T ++ (rptT 46 d ++ ((if 0 < m ∧ last = 0 ∧ q.2 13 w 30 (l4 + 1) = q.2 13 w 30 l4 then [126] else []) ++ (32 :: (if last = 0 ∧ q.2 13 w 31 (l4 + 1) = q.2 13 w 31 l4 then [] else [124, 10]))))) F' B' := by
  have e300 : ∀ (T : List Int) (F : zF) (B : zB), T.length < 14000 → TM q T F B → ∃ F' B', f_M_downNote_300 Km l4 last F B = some (0, F', B') ∧ TM q (T ++ (32 :: (if last = 0 ∧ q.2 13 w 31 (l4 + 1) = q.2 13 w 31 l4 then [] else [124, 10]))) F' B' := by
    intro T F B ht h
    obtain ⟨F1, B1, e1, w1⟩ := M_pt (Km := Km) (a := 32) (by first | decide | omega) h
    have g6 : F1 14 0 6 = w := by rw [w1.2.1 14 0 6 (by first | decide | omega)]; exact hw.1
    have e336 : ∃ F' B', f_M_downNote_336 Km F1 B1 = some (0, F', B') ∧ TM q (T ++ (32 :: [124, 10])) F' B' := by
      obtain ⟨F2, B2, e2, w2⟩ := M_pt (Km := Km) (a := 124) (by rw [List.length_append, List.length_singleton]; omega) w1
      obtain ⟨F3, B3, e3, w3⟩ := M_pt (Km := Km) (a := 10) (by rw [List.length_append, List.length_append, List.length_singleton, List.length_singleton]; omega) w2
      refine ⟨F3, B3, ?_, ?_⟩
      · unfold f_M_downNote_336
        rw [e2, zb_s, e3, zb_s]
      · simp only [List.append_assoc, List.singleton_append] at w3
        exact w3
    unfold f_M_downNote_300
    rw [e1, zb_s, if_pos (by unfold r32; omega)]
    by_cases z : last = 0
    · obtain ⟨n1, n2, n3, n4, n5⟩ := hn z
      rw [if_pos z, g6, if_pos hw.2, if_pos (by first | decide | omega), if_pos h4, w1.2.2 13 w 31 _ (by first | decide | omega), w1.2.2 13 w 31 _ (by first | decide | omega), if_pos n4, if_pos n5]
      by_cases y : q.2 13 w 31 (l4 + 1) = q.2 13 w 31 l4
      · rw [if_pos y, if_pos ⟨z, y⟩]; exact ⟨F1, B1, rfl, w1⟩
      · rw [if_neg y, if_neg (fun c => y c.2)]; exact e336
    · rw [if_neg z, if_neg (fun c => z c.1)]; exact e336
  intro d
  induction d with
  | zero =>
    intro n k T F B e k0 hn' ht h
    obtain ⟨p, rfl⟩ : ∃ p, n = p + 1 := ⟨n - 1, (by first | decide | omega)⟩
    have f6 : F 14 0 6 = w := by rw [h.2.1 14 0 6 (by first | decide | omega)]; exact hw.1
    rw [f_M_downNote_233, f6, if_pos hw.2, if_pos h4, if_pos (by unfold r32; omega), h.2.2 13 w 35 _ (by first | decide | omega), h35, if_pos (by unfold r32; omega), if_pos (by first | decide | omega), if_pos (by unfold r32; omega), rptT, List.nil_append]
    by_cases z : m ≤ 0
    · rw [if_pos z, if_neg (show ¬ (0 < m ∧ _ ∧ _) from fun c => by have := c.1; omega), List.nil_append]
      exact e300 T F B (by first | decide | omega) h
    · rw [if_neg z, if_pos (by unfold r32; omega)]
      by_cases y : last = 0
      · obtain ⟨n1, n2, n3, n4, n5⟩ := hn y
        rw [if_pos y, if_pos (by first | decide | omega), h.2.2 13 w 30 _ (by first | decide | omega), h.2.2 13 w 30 _ (by first | decide | omega), if_pos n2, if_pos n3]
        by_cases u : q.2 13 w 30 (l4 + 1) = q.2 13 w 30 l4
        · obtain ⟨F1, B1, e1, w1⟩ := M_pt (Km := Km) (a := 126) (by first | decide | omega) h
          obtain ⟨F2, B2, e2, w2⟩ := e300 _ F1 B1 (by rw [List.length_append, List.length_singleton]; omega) w1
          rw [if_pos u, if_pos (show 0 < m ∧ last = 0 ∧ _ from ⟨(by first | decide | omega), y, u⟩), e1, zb_s]
          refine ⟨F2, B2, e2, ?_⟩
          rw [List.append_assoc] at w2
          exact w2
        · rw [if_neg u, if_neg (show ¬ (0 < m ∧ last = 0 ∧ _) from fun c => u c.2.2), List.nil_append]
          exact e300 T F B (by first | decide | omega) h
      · rw [if_neg y, if_neg (show ¬ (0 < m ∧ last = 0 ∧ _) from fun c => y c.2.1), List.nil_append]
        exact e300 T F B (by first | decide | omega) h
  | succ d ih =>
    intro n k T F B e k0 hn' ht h
    obtain ⟨p, rfl⟩ : ∃ p, n = p + 1 := ⟨n - 1, (by first | decide | omega)⟩
    have f6 : F 14 0 6 = w := by rw [h.2.1 14 0 6 (by first | decide | omega)]; exact hw.1
    obtain ⟨F1, B1, e1, w1⟩ := M_pt (Km := Km) (a := 46) (by first | decide | omega) h
    obtain ⟨F2, B2, e2, w2⟩ := ih p (k + 1) _ F1 B1 (by first | decide | omega) (by first | decide | omega) (by first | decide | omega) (by rw [List.length_append, List.length_singleton]; omega) w1
    refine ⟨F2, B2, ?_, ?_⟩
    · rw [f_M_downNote_233, f6, if_pos hw.2, if_pos h4, if_pos (by unfold r32; omega), h.2.2 13 w 35 _ (by first | decide | omega), h35, if_pos (by unfold r32; omega), if_neg (by first | decide | omega), e1, zb_s]
      exact e2
    · rw [List.append_assoc] at w2
      exact w2
/-- a note of the reference; its event has m tones -/
theorem M_dn {x : Int} {T : List Int} {F : zF} {B : zB} (hK : 200 ≤ Km) (hw : q.1 14 0 6 = w ∧ 0 ≤ w ∧ w < 3) (v0 : 0 ≤ v ∧ v < 4) (i0 : 0 ≤ i ∧ i < 800) (he : -1 ≤ q.2 13 w 30 (800 * v + i) ∧ q.2 13 w 30 (800 * v + i) < 1000) (hx : x = 1000 * v + q.2 13 w 30 (800 * v + i)) (hme : m = if q.2 13 w 30 (800 * v + i) < 0 then 0 else q.2 13 w 21 x) (hm : 0 ≤ m ∧ m ≤ 6) (hp : ∀ k, 0 ≤ k → k < m → q.2 13 w 28 (6 * x + k) = st k ∧ q.2 13 w 29 (6 * x + k) = al k ∧ (0 ≤ st k ∧ st k ≤ 62) ∧ (-7 ≤ al k ∧ al k ≤ 7)) (hv : 0 ≤ vv ∧ vv < 24) (h34 : q.2 13 w 34 (800 * v + i) = vv / 3) (h35 : q.2 13 w 35 (800 * v + i) = 2 - vv % 3) (hl : last = 0 ∨ last = 1) (hn : last = 0 → i < 799 ∧ r32 (q.2 13 w 30 (800 * v + i + 1)) ∧ r32 (q.2 13 w 31 (800 * v + i + 1)) ∧ r32 (q.2 13 w 31 (800 * v + i))) (ht : T.length ≤ 3000) (h : TM q T F B) : ∃ F' B', f_M_downNote Km v i last F B = some (0, F', B') ∧ TM q (T ++ (ntA m st al vv ++ ((if 0 < m ∧ last = 0 ∧ q.2 13 w 30 (800 * v + i + 1) = q.2 13 w 30 (800 * v + i) then [126] else []) ++ (32 :: (if last = 0 ∧ q.2 13 w 31 (800 * v + i + 1) = q.2 13 w 31 (800 * v + i) then [] else [124, 10]))))) F' B' := by
  have f6 : F 14 0 6 = w := by rw [h.2.1 14 0 6 (by first | decide | omega)]; exact hw.1
  have s7 := sh7e hv.1 hv.2
  obtain ⟨y, ey, em⟩ : ∃ y, f_M_downNote Km v i last F B = f_M_downNote_39 Km y (800 * v + i) last m F B ∧ (0 < m → y = x) := by
    unfold f_M_downNote f_M_sounding f_M_sounding_32 f_M_sounding_43
    rw [f6, if_pos hw.2, if_pos hw.2, if_pos (by first | decide | omega), h.2.2 13 w 30 _ (by first | decide | omega), if_pos (by unfold r32; omega)]
    by_cases z : q.2 13 w 30 (800 * v + i) < 0
    · rw [if_pos z, zb_s, if_pos (by decide), if_neg (by decide)]
      rw [if_pos z] at hme
      exact ⟨-1, by rw [hme], fun c => (by first | decide | omega)⟩
    · rw [if_neg z] at hme
      rw [if_neg z, if_pos (by first | decide | omega), h.2.2 13 w 21 _ (by first | decide | omega), ← hx, ← hme, if_pos (by unfold r32; omega)]
      by_cases u : m = 0
      · rw [if_pos u, zb_s, if_pos (by decide), if_neg (by decide)]
        exact ⟨-1, by rw [u], fun c => (by first | decide | omega)⟩
      · rw [if_neg u, zb_s, if_pos (by unfold r32; omega), if_pos (by first | decide | omega), f6, if_pos hw.2, if_pos (by first | decide | omega), h.2.2 13 w 21 _ (by first | decide | omega), ← hme]
        exact ⟨x, rfl, fun _ => rfl⟩
  rw [ey]
  obtain ⟨F1, B1, e1, w1⟩ : ∃ F1 B1, f_M_downNote_39 Km y (800 * v + i) last m F B = f_M_downNote_52 Km m y (800 * v + i) last F1 B1 ∧ TM q (T ++ (if m = 0 then [114] else [])) F1 B1 := by
    unfold f_M_downNote_39
    rw [if_pos (by unfold r32; omega)]
    by_cases z : m = 0
    · obtain ⟨F1, B1, e1, w1⟩ := M_pt (Km := Km) (a := 114) (by first | decide | omega) h
      rw [if_pos z, if_pos z, e1, zb_s]; exact ⟨F1, B1, rfl, w1⟩
    · rw [if_neg z, if_neg z, List.append_nil]; exact ⟨F, B, rfl, h⟩
  have l1 := if_l (c := m = 0) (x := 114)
  have l2 := if_l (c := 1 < m) (x := 60)
  have l3 := if_l (c := 1 < m) (x := 62)
  obtain ⟨F2, B2, e2, w2⟩ : ∃ F2 B2, f_M_downNote_52 Km m y (800 * v + i) last F1 B1 = f_M_downNote_67 Km Km 0 m y (800 * v + i) last F2 B2 ∧ TM q (T ++ (if m = 0 then [114] else []) ++ (if 1 < m then [60] else [])) F2 B2 := by
    unfold f_M_downNote_52 f_M_downNote_64
    rw [if_pos (by unfold r32; omega)]
    by_cases z : m ≤ 1
    · rw [if_pos z, if_neg (show ¬ 1 < m by omega), List.append_nil]; exact ⟨F1, B1, rfl, w1⟩
    · obtain ⟨F2, B2, e2, w2⟩ := M_pt (Km := Km) (a := 60) (by rw [List.length_append]; omega) w1
      rw [if_neg z, if_pos (show 1 < m by omega), e2, zb_s]; exact ⟨F2, B2, rfl, w2⟩
  have hy : 0 < m → 0 ≤ y ∧ y < 4000 := fun c => by
    rw [em c]
    by_cases z : q.2 13 w 30 (800 * v + i) < 0
    · rw [if_pos z] at hme; omega
    · omega
  obtain ⟨F3, B3, e3, w3⟩ := M_67 (x := y) (l4 := 800 * v + i) (last := last) (st := st) (al := al) hK hw hy hm (fun k k0 k1 => by rw [em (by first | decide | omega)]; exact hp k k0 k1) m.toNat Km 0 _ F2 B2 (by first | decide | omega) (by first | decide | omega) (by first | decide | omega) (by rw [List.length_append, List.length_append]; omega) w2
  have cl := chT_l (st := st) (al := al) m.toNat 0 (fun j a b => (hp j a (by first | decide | omega)).2.2.2)
  obtain ⟨F4, B4, e4, w4⟩ := M_pt (Km := Km) (a := 58) (by simp only [List.length_append]; omega) w3
  have g6 : F4 14 0 6 = w := by rw [w4.2.1 14 0 6 (by first | decide | omega)]; exact hw.1
  obtain ⟨F5, B5, e5, w5⟩ := M_dec (Km := Km) hK s7.2 (by simp only [List.length_append, List.length_singleton]; omega) w4
  have dl := decT_l (v := zshl 1 (vv / 3))
  obtain ⟨F6, B6, e6, w6⟩ := M_233 (Km := Km) (l4 := 800 * v + i) (m := m) (last := last) hw (by first | decide | omega) hm hv h35 hl (fun c => by
    obtain ⟨n1, n2, n3, n4⟩ := hn c
    exact ⟨(by first | decide | omega), n2, by unfold r32; omega, n3, n4⟩) (2 - vv % 3).toNat Km 0 _ F5 B5 (by first | decide | omega) (by first | decide | omega) (by first | decide | omega) (by simp only [List.length_append, List.length_singleton]; omega) w5
  refine ⟨F6, B6, ?_, ?_⟩
  · rw [e1, e2, e3]
    unfold f_M_downNote_208
    rw [e4, zb_s, g6, if_pos hw.2, if_pos (by first | decide | omega), w4.2.2 13 w 34 _ (by first | decide | omega), h34, e5, zb_s, e6]
  · unfold ntA
    simp only [List.append_assoc, List.cons_append, List.nil_append, List.singleton_append] at w6 ⊢
    exact w6
end
end
