section
/-! ===== the text of a note ===== -/
def rptT (c : Int) : Nat → List Int
  | 0 => []
  | d + 1 => c :: rptT c d
def pitT (s a : Int) : List Int := zsc 47 (s % 7) :: (rptT (if 0 < a then 35 else 98) (if 0 < a then a else -a).toNat ++ [48 + s / 7])
def chT (st al : Int → Int) : Nat → Int → List Int
  | 0, _ => []
  | d + 1, k => (if 0 < k then [32] else []) ++ (pitT (st k) (al k) ++ chT st al d (k + 1))
/-- a note but for what comes behind its points -/
def ntA (m : Int) (st al : Int → Int) (v : Int) : List Int := (if m = 0 then [114] else []) ++ ((if 1 < m then [60] else []) ++ (chT st al m.toNat 0 ++ ((if 1 < m then [62] else []) ++ (58 :: (decT (zshl 1 (v / 3)) ++ rptT 46 (2 - v % 3).toNat)))))
theorem rptT_s {c : Int} {T : List Int} {d : Nat} : T ++ rptT c (d + 1) = (T ++ [c]) ++ rptT c d := by
  rw [List.append_assoc]; rfl
theorem letK : ∀ k : Fin 7, zsc 20 (k.val : Int) = zsc 47 (k.val : Int) := by decide +kernel
theorem letE {k : Int} (h0 : 0 ≤ k) (h1 : k < 7) : zsc 20 k = zsc 47 k := by
  have := letK ⟨k.toNat, (by first | decide | omega)⟩
  rwa [show (((⟨k.toNat, (by first | decide | omega)⟩ : Fin 7).val : Nat) : Int) = k by show ((k.toNat : Nat) : Int) = k; omega] at this
theorem C_wp20 {K : zK} {q : zF × zB} {s a : Int} (h0 : 2 ≤ K.2 0) (h7 : 0 < K.2 7) (q1 : q.1 7 0 1 = 1) (hs : 0 ≤ s ∧ s ≤ 62) (ha : -7 ≤ a ∧ a ≤ 7) : ∀ (d n : Nat) (k : Int) (T : List Int) (F : zF) (B : zB), k + d = (if 0 < a then a else -a) → 0 ≤ k → d < n → TC q T F B → ∃ F' B', f_Scribe_writePitch_20 K n k 0 s a F B = some (0, F', B') ∧ TC q (T ++ (rptT (if 0 < a then 35 else 98) d ++ [48 + s / 7])) F' B' := by
  have za : zabs a = (if 0 < a then a else -a) := by unfold zabs; split <;> split <;> omega
  have zb : r32 (zabs a) := by rw [za]; unfold r32; split <;> omega
  have zd : zdv s 7 = s / 7 := zdv_e hs.1 (by unfold r32; omega) (by decide) (by decide)
  intro d
  induction d with
  | zero =>
    intro n k T F B e k0 hn h
    obtain ⟨p, rfl⟩ : ∃ p, n = p + 1 := ⟨n - 1, (by first | decide | omega)⟩
    have f1 : F 7 0 1 = 1 := by rw [h.2.1 7 0 1 (by first | decide | omega)]; exact q1
    obtain ⟨F1, B1, e1, w1⟩ := C_pt (a := 48 + s / 7) h0 h
    refine ⟨F1, B1, ?_, w1⟩
    rw [f_Scribe_writePitch_20, if_pos (by unfold r32; omega), if_pos (by unfold r32; split at e <;> omega), if_pos zb, if_pos (by rw [za]; omega), if_pos ⟨(by first | decide | omega), h7⟩, f1, if_pos (by first | decide | omega), zd, e1, zb_s]
  | succ d ih =>
    intro n k T F B e k0 hn h
    obtain ⟨p, rfl⟩ : ∃ p, n = p + 1 := ⟨n - 1, (by first | decide | omega)⟩
    have f1 : F 7 0 1 = 1 := by rw [h.2.1 7 0 1 (by first | decide | omega)]; exact q1
    obtain ⟨F1, B1, e1, w1⟩ := C_pt (a := if 0 < a then 35 else 98) h0 h
    obtain ⟨F2, B2, e2, w2⟩ := ih p (k + 1) _ F1 B1 (by first | decide | omega) (by first | decide | omega) (by first | decide | omega) w1
    refine ⟨F2, B2, ?_, ?_⟩
    · rw [f_Scribe_writePitch_20, if_pos (by unfold r32; omega), if_pos (by unfold r32; split at e <;> omega), if_pos zb, if_neg (by rw [za]; omega), if_pos ⟨(by first | decide | omega), h7⟩, f1]
      by_cases z : a ≤ 0
      · rw [if_neg (by first | decide | omega)] at e1
        rw [if_pos z, f_Scribe_writePitch_43, if_pos (by first | decide | omega), e1, zb_s]
        exact e2
      · rw [if_pos (by first | decide | omega)] at e1
        rw [if_neg z, f_Scribe_writePitch_43, if_pos (by first | decide | omega), e1, zb_s]
        exact e2
    · rw [List.append_assoc] at w2
      exact w2
theorem C_wp {K : zK} {q : zF × zB} {s a : Int} {T : List Int} {F : zF} {B : zB} (h0 : 2 ≤ K.2 0) (h7 : 0 < K.2 7) (hK : 200 ≤ K.1) (q1 : q.1 7 0 1 = 1) (hs : 0 ≤ s ∧ s ≤ 62) (ha : -7 ≤ a ∧ a ≤ 7) (h : TC q T F B) : ∃ F' B', f_Scribe_writePitch K 0 s a F B = some (0, F', B') ∧ TC q (T ++ pitT s a) F' B' := by
  have f1 : F 7 0 1 = 1 := by rw [h.2.1 7 0 1 (by first | decide | omega)]; exact q1
  have l20 : zsl 20 = 7 := by decide
  obtain ⟨F1, B1, e1, w1⟩ := C_pt (a := zsc 47 (s % 7)) h0 h
  obtain ⟨F2, B2, e2, w2⟩ := C_wp20 h0 h7 q1 hs ha (if 0 < a then a else -a).toNat K.1 0 _ F1 B1 (by split <;> omega) (by first | decide | omega) (by split <;> omega) w1
  refine ⟨F2, B2, ?_, ?_⟩
  · unfold f_Scribe_writePitch
    rw [if_pos ⟨(by first | decide | omega), h7⟩, f1, if_pos (by first | decide | omega), C_fm hs.1 hs.2, zb_s, C_schar (by decide) (by first | decide | omega) (by first | decide | omega) (by first | decide | omega), zb_s, letE (by first | decide | omega) (by first | decide | omega), e1, zb_s]
    exact e2
  · rw [List.append_assoc] at w2
    exact w2
theorem C_wn46 {K : zK} {q : zF × zB} {m v g : Int} {st al : Int → Int} (h0 : 2 ≤ K.2 0) (h7 : 0 < K.2 7) (h1 : 0 < K.2 1) (hK : 200 ≤ K.1) (q1 : q.1 7 0 1 = 1) (q4 : q.1 7 0 4 = 0) (q10 : q.1 1 0 10 = m) (hm : 0 ≤ m ∧ m ≤ 6) (hp : ∀ k, 0 ≤ k → k < m → q.2 1 0 12 k = st k ∧ q.2 1 0 13 k = al k ∧ (0 ≤ st k ∧ st k ≤ 62) ∧ (-7 ≤ al k ∧ al k ≤ 7)) : ∀ (d n : Nat) (k : Int) (T : List Int) (F : zF) (B : zB), k + d = m → 0 ≤ k → d < n → TC q T F B → ∃ F' B', f_Scribe_writeNote_46 K n k 0 v g F B = f_Scribe_writeNote_125 K 0 v g 1 (if m ≤ 1 then 18 else 17) F' B' ∧ TC q (T ++ chT st al d k) F' B' := by
  intro d
  induction d with
  | zero =>
    intro n k T F B e k0 hn h
    obtain ⟨p, rfl⟩ : ∃ p, n = p + 1 := ⟨n - 1, (by first | decide | omega)⟩
    have f1 : F 7 0 1 = 1 := by rw [h.2.1 7 0 1 (by first | decide | omega)]; exact q1
    have f4 : F 7 0 4 = 0 := by rw [h.2.1 7 0 4 (by first | decide | omega)]; exact q4
    have f10 : F 1 0 10 = m := by rw [h.2.1 1 0 10 (by first | decide | omega)]; exact q10
    refine ⟨F, B, ?_, by rw [chT, List.append_nil]; exact h⟩
    rw [f_Scribe_writeNote_46, if_pos ⟨(by first | decide | omega), h7⟩, f4, if_pos ⟨(by first | decide | omega), h1⟩, if_pos (by unfold r32; omega), f10, if_pos (by unfold r32; omega), if_pos (by first | decide | omega), f1]
    by_cases z : m ≤ 1
    · rw [if_pos z, if_pos z]
    · rw [if_neg z, if_neg z]
  | succ d ih =>
    intro n k T F B e k0 hn h
    obtain ⟨p, rfl⟩ : ∃ p, n = p + 1 := ⟨n - 1, (by first | decide | omega)⟩
    have f1 : F 7 0 1 = 1 := by rw [h.2.1 7 0 1 (by first | decide | omega)]; exact q1
    have f4 : F 7 0 4 = 0 := by rw [h.2.1 7 0 4 (by first | decide | omega)]; exact q4
    have f10 : F 1 0 10 = m := by rw [h.2.1 1 0 10 (by first | decide | omega)]; exact q10
    obtain ⟨p1, p2, p3, p4⟩ := hp k k0 (by first | decide | omega)
    obtain ⟨F1, B1, e1, w1⟩ : ∃ F1 B1, f_ByteRow_putText K 1 (if k ≤ 0 then 15 else 16) F B = some (0, F1, B1) ∧ TC q (T ++ (if 0 < k then [32] else [])) F1 B1 := by
      by_cases z : k ≤ 0
      · rw [if_pos z, if_neg (by first | decide | omega)]
        exact C_strg h0 hK (by decide) (by decide) (by decide) (by decide) h
      · rw [if_neg z, if_pos (by first | decide | omega)]
        exact C_strg h0 hK (by decide) (by decide) (by decide) (by decide) h
    have g4 : F1 7 0 4 = 0 := by rw [w1.2.1 7 0 4 (by first | decide | omega)]; exact q4
    obtain ⟨F2, B2, e2, w2⟩ := C_wp h0 h7 hK q1 p3 p4 w1
    obtain ⟨F3, B3, e3, w3⟩ := ih p (k + 1) _ F2 B2 (by first | decide | omega) (by first | decide | omega) (by first | decide | omega) w2
    refine ⟨F3, B3, ?_, ?_⟩
    · have e72 : f_Scribe_writeNote_72 (f_Scribe_writeNote_46 K p) K k 0 v g 1 (if k ≤ 0 then 15 else 16) F B = f_Scribe_writeNote_46 K p (k + 1) 0 v g F2 B2 := by
        unfold f_Scribe_writeNote_72
        rw [if_pos (by first | decide | omega), e1, zb_s, if_pos ⟨(by first | decide | omega), h7⟩, g4, if_pos ⟨(by first | decide | omega), h1⟩, if_pos (by first | decide | omega), w1.2.2 1 0 12 k (by first | decide | omega), w1.2.2 1 0 13 k (by first | decide | omega), p1, p2, e2, zb_s]
      rw [f_Scribe_writeNote_46, if_pos ⟨(by first | decide | omega), h7⟩, f4, if_pos ⟨(by first | decide | omega), h1⟩, if_pos (by unfold r32; omega), f10, if_pos (by unfold r32; omega), if_neg (by first | decide | omega), f1]
      rw [← e3, ← e72]
      by_cases z : k ≤ 0
      · rw [if_pos z, if_pos z]
      · rw [if_neg z, if_neg z]
    · rw [List.append_assoc, List.append_assoc] at w3
      exact w3
/-- the points, then what comes behind -/
theorem C_wn142 {K : zK} {q : zF × zB} {m v g : Int} (h0 : 2 ≤ K.2 0) (h7 : 0 < K.2 7) (h1 : 0 < K.2 1) (hK : 200 ≤ K.1) (q1 : q.1 7 0 1 = 1) (q4 : q.1 7 0 4 = 0) (q10 : q.1 1 0 10 = m) (hm : 0 ≤ m ∧ m ≤ 6) (hv : 0 ≤ v ∧ v < 24) (hg : g = 0 ∨ g = 1) : ∀ (d n : Nat) (k : Int) (T : List Int) (F : zF) (B : zB), k + d = 2 - v % 3 → 0 ≤ k → d < n → TC q T F B → ∃ F' B', f_Scribe_writeNote_142 K n k 0 v g F B = some (0, F', B') ∧ TC q (T ++ (rptT 46 d ++ ((if g = 1 ∧ ¬ m = 0 then [126] else []) ++ [32]))) F' B' := by
  have zr : zrm v 3 = v % 3 := zrm_e hv.1 (by unfold r32; omega) (by decide) (by decide)
  intro d
  induction d with
  | zero =>
    intro n k T F B e k0 hn h
    obtain ⟨p, rfl⟩ : ∃ p, n = p + 1 := ⟨n - 1, (by first | decide | omega)⟩
    have f1 : F 7 0 1 = 1 := by rw [h.2.1 7 0 1 (by first | decide | omega)]; exact q1
    have f4 : F 7 0 4 = 0 := by rw [h.2.1 7 0 4 (by first | decide | omega)]; exact q4
    have f10 : F 1 0 10 = m := by rw [h.2.1 1 0 10 (by first | decide | omega)]; exact q10
    obtain ⟨F1, B1, e1, w1⟩ : ∃ F1 B1, f_ByteRow_putText K 1 (if g = 1 ∧ ¬ m = 0 then 19 else 16) F B = some (0, F1, B1) ∧ TC q (T ++ ((if g = 1 ∧ ¬ m = 0 then [126] else []) ++ [32])) F1 B1 := by
      by_cases z : g = 1 ∧ ¬ m = 0
      · rw [if_pos z, if_pos z]
        exact C_strg h0 hK (by decide) (by decide) (by decide) (by decide) h
      · rw [if_neg z, if_neg z]
        exact C_strg h0 hK (by decide) (by decide) (by decide) (by decide) h
    refine ⟨F1, B1, ?_, w1⟩
    have e191 : f_Scribe_writeNote_191 K 1 (if g = 1 ∧ ¬ m = 0 then 19 else 16) F B = some (0, F1, B1) := by
      unfold f_Scribe_writeNote_191
      rw [if_pos (by first | decide | omega), e1, zb_s]
    rw [f_Scribe_writeNote_142, if_pos (by unfold r32; omega), zr, if_pos (by unfold r32; omega), if_pos (by first | decide | omega), if_pos ⟨(by first | decide | omega), h7⟩, if_pos (by unfold r32; omega), f1, f4, ← e191]
    unfold f_Scribe_writeNote_189
    by_cases z : g = 0
    · rw [if_pos z, if_neg (by first | decide | omega)]
    · rw [if_neg z, if_pos (by first | decide | omega), if_pos ⟨(by first | decide | omega), h1⟩]
      unfold f_Event_isRest f_Event_isRest_12
      rw [if_pos ⟨(by first | decide | omega), h1⟩, f10, if_pos (by unfold r32; omega)]
      by_cases y : m = 0
      · rw [if_pos y, if_pos (by first | decide | omega), zb_s, if_pos (by decide), if_neg (by decide), if_neg (by first | decide | omega)]
      · rw [if_neg y, if_pos (by first | decide | omega), zb_s, if_pos (by decide), if_pos rfl, if_pos (by first | decide | omega)]
  | succ d ih =>
    intro n k T F B e k0 hn h
    obtain ⟨p, rfl⟩ : ∃ p, n = p + 1 := ⟨n - 1, (by first | decide | omega)⟩
    have f1 : F 7 0 1 = 1 := by rw [h.2.1 7 0 1 (by first | decide | omega)]; exact q1
    obtain ⟨F1, B1, e1, w1⟩ := C_pt (a := 46) h0 h
    obtain ⟨F2, B2, e2, w2⟩ := ih p (k + 1) _ F1 B1 (by first | decide | omega) (by first | decide | omega) (by first | decide | omega) w1
    refine ⟨F2, B2, ?_, ?_⟩
    · rw [f_Scribe_writeNote_142, if_pos (by unfold r32; omega), zr, if_pos (by unfold r32; omega), if_neg (by first | decide | omega), if_pos ⟨(by first | decide | omega), h7⟩, f1, if_pos (by first | decide | omega), e1, zb_s]
      exact e2
    · rw [List.append_assoc] at w2
      exact w2
theorem sh7 : ∀ k : Fin 24, zshl 1 (zdv (k.val : Int) 3) = zshl 1 ((k.val : Int) / 3) ∧ 0 ≤ zshl 1 ((k.val : Int) / 3) ∧ zshl 1 ((k.val : Int) / 3) < 1000 := by decide +kernel
theorem sh7e {v : Int} (h0 : 0 ≤ v) (h1 : v < 24) : zshl 1 (zdv v 3) = zshl 1 (v / 3) ∧ 0 ≤ zshl 1 (v / 3) ∧ zshl 1 (v / 3) < 1000 := by
  have := sh7 ⟨v.toNat, (by first | decide | omega)⟩
  rwa [show (((⟨v.toNat, (by first | decide | omega)⟩ : Fin 24).val : Nat) : Int) = v by show ((v.toNat : Nat) : Int) = v; omega] at this
theorem C_wn {K : zK} {q : zF × zB} {m v g : Int} {st al : Int → Int} {T : List Int} {F : zF} {B : zB} (h0 : 2 ≤ K.2 0) (h7 : 0 < K.2 7) (h1 : 0 < K.2 1) (hK : 200 ≤ K.1) (q1 : q.1 7 0 1 = 1) (q4 : q.1 7 0 4 = 0) (q10 : q.1 1 0 10 = m) (hm : 0 ≤ m ∧ m ≤ 6) (hp : ∀ k, 0 ≤ k → k < m → q.2 1 0 12 k = st k ∧ q.2 1 0 13 k = al k ∧ (0 ≤ st k ∧ st k ≤ 62) ∧ (-7 ≤ al k ∧ al k ≤ 7)) (hv : 0 ≤ v ∧ v < 24) (hg : g = 0 ∨ g = 1) (h : TC q T F B) : ∃ F' B', f_Scribe_writeNote K 0 v g F B = some (0, F', B') ∧ TC q (T ++ (ntA m st al v ++ ((if g = 1 ∧ ¬ m = 0 then [126] else []) ++ [32]))) F' B' := by
  have f4 : F 7 0 4 = 0 := by rw [h.2.1 7 0 4 (by first | decide | omega)]; exact q4
  have f10 : F 1 0 10 = m := by rw [h.2.1 1 0 10 (by first | decide | omega)]; exact q10
  -- the rest's letter
  obtain ⟨F1, B1, e1, w1⟩ : ∃ F1 B1, f_Scribe_writeNote K 0 v g F B = f_Scribe_writeNote_19 K 0 v g F1 B1 ∧ TC q (T ++ (if m = 0 then [114] else [])) F1 B1 := by
    unfold f_Scribe_writeNote f_Event_isRest f_Event_isRest_12
    have f1 : F 7 0 1 = 1 := by rw [h.2.1 7 0 1 (by first | decide | omega)]; exact q1
    rw [if_pos ⟨(by first | decide | omega), h7⟩, f4, if_pos ⟨(by first | decide | omega), h1⟩, if_pos ⟨(by first | decide | omega), h1⟩, f10, if_pos (by unfold r32; omega)]
    by_cases z : m = 0
    · obtain ⟨F1, B1, e1, w1⟩ := C_pt (a := 114) h0 h
      rw [if_pos z, if_pos (by first | decide | omega), zb_s, if_pos (by decide), if_neg (by decide), f1, if_pos (by first | decide | omega), e1, zb_s, if_pos z]
      exact ⟨F1, B1, rfl, w1⟩
    · rw [if_neg z, if_pos (by first | decide | omega), zb_s, if_pos (by decide), if_pos rfl, if_neg z, List.append_nil]
      exact ⟨F, B, rfl, h⟩
  have g1 : F1 7 0 1 = 1 := by rw [w1.2.1 7 0 1 (by first | decide | omega)]; exact q1
  have g4 : F1 7 0 4 = 0 := by rw [w1.2.1 7 0 4 (by first | decide | omega)]; exact q4
  have g10 : F1 1 0 10 = m := by rw [w1.2.1 1 0 10 (by first | decide | omega)]; exact q10
  -- the bracket
  obtain ⟨F2, B2, e2, w2⟩ : ∃ F2 B2, f_ByteRow_putText K 1 (if m ≤ 1 then 15 else 14) F1 B1 = some (0, F2, B2) ∧ TC q (T ++ (if m = 0 then [114] else []) ++ (if 1 < m then [60] else [])) F2 B2 := by
    by_cases z : m ≤ 1
    · rw [if_pos z, if_neg (show ¬ 1 < m by omega)]
      exact C_strg h0 hK (by decide) (by decide) (by decide) (by decide) w1
    · rw [if_neg z, if_pos (show 1 < m by omega)]
      exact C_strg h0 hK (by decide) (by decide) (by decide) (by decide) w1
  have e19 : f_Scribe_writeNote_19 K 0 v g F1 B1 = f_Scribe_writeNote_46 K K.1 0 0 v g F2 B2 := by
    unfold f_Scribe_writeNote_19
    rw [if_pos ⟨(by first | decide | omega), h7⟩, g4, if_pos ⟨(by first | decide | omega), h1⟩, g10, if_pos (by unfold r32; omega), g1]
    have : f_Scribe_writeNote_41 K 0 v g 1 (if m ≤ 1 then 15 else 14) F1 B1 = f_Scribe_writeNote_46 K K.1 0 0 v g F2 B2 := by
      unfold f_Scribe_writeNote_41
      rw [if_pos (by first | decide | omega), e2, zb_s]
    rw [← this]
    by_cases z : m ≤ 1
    · rw [if_pos z, if_pos z]
    · rw [if_neg z, if_neg z]
  obtain ⟨F3, B3, e3, w3⟩ := C_wn46 (v := v) (g := g) h0 h7 h1 hK q1 q4 q10 hm hp m.toNat K.1 0 _ F2 B2 (by first | decide | omega) (by first | decide | omega) (by first | decide | omega) w2
  obtain ⟨F4, B4, e4, w4⟩ : ∃ F4 B4, f_ByteRow_putText K 1 (if m ≤ 1 then 18 else 17) F3 B3 = some (0, F4, B4) ∧ TC q (T ++ (if m = 0 then [114] else []) ++ (if 1 < m then [60] else []) ++ chT st al m.toNat 0 ++ ((if 1 < m then [62] else []) ++ [58])) F4 B4 := by
    by_cases z : m ≤ 1
    · rw [if_pos z, if_neg (show ¬ 1 < m by omega), if_neg (show ¬ 1 < m by omega)]
      rw [if_neg (show ¬ 1 < m by omega)] at w3
      exact C_strg h0 hK (by decide) (by decide) (by decide) (by decide) w3
    · rw [if_neg z, if_pos (show 1 < m by omega), if_pos (show 1 < m by omega)]
      rw [if_pos (show 1 < m by omega)] at w3
      exact C_strg h0 hK (by decide) (by decide) (by decide) (by decide) w3
  have s7 := sh7e hv.1 hv.2
  obtain ⟨F5, B5, e5, w5⟩ := C_dec h0 hK s7.2 w4
  obtain ⟨F6, B6, e6, w6⟩ := C_wn142 h0 h7 h1 hK q1 q4 q10 hm hv hg (2 - v % 3).toNat K.1 0 _ F5 B5 (by first | decide | omega) (by first | decide | omega) (by first | decide | omega) w5
  refine ⟨F6, B6, ?_, ?_⟩
  · have k1 : F4 7 0 1 = 1 := by rw [w4.2.1 7 0 1 (by first | decide | omega)]; exact q1
    rw [e1, e19, e3]
    unfold f_Scribe_writeNote_125
    rw [if_pos (by first | decide | omega), e4, zb_s, if_pos ⟨(by first | decide | omega), h7⟩, k1, if_pos (by first | decide | omega), s7.1, e5, zb_s, e6]
  · unfold ntA
    simp only [List.append_assoc, List.cons_append, List.nil_append] at w6 ⊢
    exact w6
end
