section
/-! ===== texts written, each side by itself ===== -/
def tbA (T : List Int) (j : Nat) : Int := (T[j]?).getD 0
theorem tbA_l {T U : List Int} {j : Nat} (h : j < T.length) : tbA (T ++ U) j = tbA T j := by
  unfold tbA
  rw [List.getElem?_append_left h]
theorem tbA_r {T : List Int} {a : Int} : tbA (T ++ [a]) T.length = a := by
  unfold tbA
  rw [List.getElem?_append_right (Nat.le_refl _), Nat.sub_self]
  rfl
/-- the class's page holds the text T; all else as in q -/
def TC (q : zF × zB) (T : List Int) (F : zF) (B : zB) : Prop := ((T.length ≤ 20480 ∧ F 0 1 1 = T.length ∧ F 0 1 2 = 0 ∧ ∀ j : Nat, j < T.length → B 0 1 0 j = tbA T j % 256) ∨ (20480 < T.length ∧ F 0 1 1 = 20480 ∧ F 0 1 2 = 1)) ∧ (∀ c y k, ¬ (c = 0 ∧ y = 1 ∧ 1 ≤ k ∧ k ≤ 2) → F c y k = q.1 c y k) ∧ (∀ c y k x, ¬ (c = 0 ∧ y = 1 ∧ k = 0) → B c y k x = q.2 c y k x)
/-- what the reference wrote is the text T; all else as in q -/
def TM (q : zF × zB) (T : List Int) (F : zF) (B : zB) : Prop := (F 14 0 71 = T.length ∧ ∀ j : Nat, j < T.length → B 14 0 70 j % 256 = tbA T j % 256) ∧ (∀ c y k, ¬ (c = 14 ∧ y = 0 ∧ k = 71) → F c y k = q.1 c y k) ∧ (∀ c y k x, ¬ (c = 14 ∧ y = 0 ∧ k = 70) → B c y k x = q.2 c y k x)
theorem TC_s {q : zF × zB} {T : List Int} {F : zF} {B : zB} (h : TC q T F B) : TC (F, B) T F B := ⟨h.1, fun _ _ _ _ => rfl, fun _ _ _ _ _ => rfl⟩
theorem TM_s {q : zF × zB} {T : List Int} {F : zF} {B : zB} (h : TM q T F B) : TM (F, B) T F B := ⟨h.1, fun _ _ _ _ => rfl, fun _ _ _ _ _ => rfl⟩
theorem C_pt {K : zK} {q : zF × zB} {T : List Int} {a : Int} {F : zF} {B : zB} (h0 : 2 ≤ K.2 0) (h : TC q T F B) : ∃ F' B', f_ByteRow_put K 1 a F B = some (0, F', B') ∧ TC q (T ++ [a]) F' B' := by
  obtain ⟨hp, gF, gB⟩ := h
  have ln : ((lnC 0 1 0 : Nat) : Int) = 20480 := by decide
  have ll : (T ++ [a]).length = T.length + 1 := by rw [List.length_append]; rfl
  unfold f_ByteRow_put
  rw [ln]
  rcases hp with ⟨t1, t2, t3, t4⟩ | ⟨t1, t2, t3⟩
  · by_cases z : T.length < 20480
    · rw [t2, if_pos (by first | decide | omega), if_pos (by unfold r32; omega), if_pos (by decide), if_pos (by first | decide | omega), if_pos (by first | decide | omega), zand255]
      refine ⟨_, _, rfl, Or.inl ⟨(by first | decide | omega), ?_, ?_, fun j hj => ?_⟩, fun c y k n => ?_, fun c y k x n => ?_⟩
      · rw [zup3_v, if_pos (by first | decide | omega), ll]; omega
      · rw [zup3_v, if_neg (by first | decide | omega)]; exact t3
      · rw [zup4_v]
        by_cases y : j = T.length
        · rw [if_pos (by first | decide | omega), y, tbA_r]
        · rw [if_neg (by first | decide | omega), tbA_l (by first | decide | omega)]; exact t4 j (by first | decide | omega)
      · rw [zup3_v, if_neg (by first | decide | omega)]; exact gF c y k n
      · rw [zup4_v, if_neg (by first | decide | omega)]; exact gB c y k x n
    · rw [t2, if_pos (by first | decide | omega), if_pos (by unfold r32; omega), if_pos (by decide), if_neg (by first | decide | omega)]
      refine ⟨_, _, rfl, Or.inr ⟨(by first | decide | omega), ?_, ?_⟩, fun c y k n => ?_, gB⟩
      · rw [zup3_v, if_neg (by first | decide | omega), t2]; omega
      · rw [zup3_v, if_pos (by first | decide | omega)]
      · rw [zup3_v, if_neg (by first | decide | omega)]; exact gF c y k n
  · rw [t2, if_pos (by first | decide | omega), if_pos (by decide), if_pos (by decide), if_neg (by decide)]
    refine ⟨_, _, rfl, Or.inr ⟨(by first | decide | omega), ?_, ?_⟩, fun c y k n => ?_, gB⟩
    · rw [zup3_v, if_neg (by first | decide | omega), t2]
    · rw [zup3_v, if_pos (by first | decide | omega)]
    · rw [zup3_v, if_neg (by first | decide | omega)]; exact gF c y k n
theorem M_pt {Km : Nat} {q : zF × zB} {T : List Int} {a : Int} {F : zF} {B : zB} (hn : T.length < 30000) (h : TM q T F B) : ∃ F' B', f_M_put_0 Km a F B = some (0, F', B') ∧ TM q (T ++ [a]) F' B' := by
  obtain ⟨⟨t2, t4⟩, gF, gB⟩ := h
  have ll : (T ++ [a]).length = T.length + 1 := by rw [List.length_append]; rfl
  unfold f_M_put_0 f_M_put_0_20
  rw [t2, if_pos (by unfold r32; omega), if_neg (by first | decide | omega), if_pos (by first | decide | omega)]
  refine ⟨_, _, rfl, ⟨?_, fun j hj => ?_⟩, fun c y k n => ?_, fun c y k x n => ?_⟩
  · rw [zup3_v, if_pos (by first | decide | omega), ll]; omega
  · rw [zup4_v]
    by_cases y : j = T.length
    · rw [if_pos (by first | decide | omega), y, tbA_r, zi2b_m]
    · rw [if_neg (by first | decide | omega), tbA_l (by first | decide | omega)]; exact t4 j (by first | decide | omega)
  · rw [zup3_v, if_neg (by first | decide | omega)]; exact gF c y k n
  · rw [zup4_v, if_neg (by first | decide | omega)]; exact gB c y k x n
/-- a string's letters from k on, d of them -/
def strT (s : Nat) : Nat → Int → List Int
  | 0, _ => []
  | d + 1, k => zsc s k :: strT s d (k + 1)
theorem C_txs {K : zK} {q : zF × zB} {s : Nat} (h0 : 2 ≤ K.2 0) (hs : s < strL.length) (hz : zshr (zsl s) 0 = zsl s) (hl : zsl s ≤ 100) : ∀ (d m : Nat) (k : Int) (T : List Int) (F : zF) (B : zB), k + d = zsl s → 0 ≤ k → d < m → TC q T F B → ∃ F' B', f_ByteRow_putText_2 K m k 1 s F B = some (0, F', B') ∧ TC q (T ++ strT s d k) F' B' := by
  intro d
  induction d with
  | zero =>
    intro m k T F B e k0 hm h
    obtain ⟨p, rfl⟩ : ∃ p, m = p + 1 := ⟨m - 1, (by first | decide | omega)⟩
    have : k = zsl s := by omega
    subst this
    exact ⟨F, B, C_txtE p hs hz (by first | decide | omega), by rw [strT, List.append_nil]; exact h⟩
  | succ d ih =>
    intro m k T F B e k0 hm h
    obtain ⟨p, rfl⟩ : ∃ p, m = p + 1 := ⟨m - 1, (by first | decide | omega)⟩
    obtain ⟨F1, B1, e1, w1⟩ := C_pt (a := zsc s k) h0 h
    obtain ⟨F2, B2, e2, w2⟩ := ih p (k + 1) _ F1 B1 (by first | decide | omega) (by first | decide | omega) (by first | decide | omega) w1
    refine ⟨F2, B2, ?_, ?_⟩
    · rw [C_txt h0 p hs hz k0 (by first | decide | omega) (by first | decide | omega), e1, zb_s, e2]
    · rw [List.append_assoc] at w2; exact w2
theorem M_txs {Km : Nat} {q : zF × zB} {s : Nat} (hs : s < strL.length) (hz : zshr (zsl s) 0 = zsl s) (hl : zsl s ≤ 100) : ∀ (d m : Nat) (k : Int) (T : List Int) (F : zF) (B : zB), k + d = zsl s → 0 ≤ k → d < m → T.length + d < 30000 → TM q T F B → ∃ F' B', f_M_put_1_2 Km m k s F B = some (0, F', B') ∧ TM q (T ++ strT s d k) F' B' := by
  intro d
  induction d with
  | zero =>
    intro m k T F B e k0 hm hn h
    obtain ⟨p, rfl⟩ : ∃ p, m = p + 1 := ⟨m - 1, (by first | decide | omega)⟩
    have : k = zsl s := by omega
    subst this
    exact ⟨F, B, L_txtE p hs hz (by first | decide | omega), by rw [strT, List.append_nil]; exact h⟩
  | succ d ih =>
    intro m k T F B e k0 hm hn h
    obtain ⟨p, rfl⟩ : ∃ p, m = p + 1 := ⟨m - 1, (by first | decide | omega)⟩
    obtain ⟨F1, B1, e1, w1⟩ := M_pt (Km := Km) (a := zsc s k) (by first | decide | omega) h
    obtain ⟨F2, B2, e2, w2⟩ := ih p (k + 1) _ F1 B1 (by first | decide | omega) (by first | decide | omega) (by first | decide | omega) (by rw [List.length_append]; simp; omega) w1
    refine ⟨F2, B2, ?_, ?_⟩
    · rw [L_txt p hs hz k0 (by first | decide | omega) (by first | decide | omega), e1, zb_s, e2]
    · rw [List.append_assoc] at w2; exact w2
/-- a whole string, its letters given -/
theorem C_strg {K : zK} {q : zF × zB} {s : Nat} {T U : List Int} {F : zF} {B : zB} (h0 : 2 ≤ K.2 0) (hK : 200 ≤ K.1) (hs : s < strL.length) (hl : 0 ≤ zsl s ∧ zsl s ≤ 100) (hz : zshr (zsl s) 0 = zsl s) (e : strT s (zsl s).toNat 0 = U) (h : TC q T F B) : ∃ F' B', f_ByteRow_putText K 1 s F B = some (0, F', B') ∧ TC q (T ++ U) F' B' := by
  obtain ⟨F', B', e1, w⟩ := C_txs h0 hs hz hl.2 (zsl s).toNat K.1 0 T F B (by first | decide | omega) (by first | decide | omega) (by first | decide | omega) h
  rw [e] at w
  exact ⟨F', B', e1, w⟩
theorem M_strg {Km : Nat} {q : zF × zB} {s : Nat} {T U : List Int} {F : zF} {B : zB} (hK : 200 ≤ Km) (hs : s < strL.length) (hl : 0 ≤ zsl s ∧ zsl s ≤ 100) (hz : zshr (zsl s) 0 = zsl s) (e : strT s (zsl s).toNat 0 = U) (hn : T.length < 20000) (h : TM q T F B) : ∃ F' B', f_M_put_1 Km s F B = some (0, F', B') ∧ TM q (T ++ U) F' B' := by
  obtain ⟨F', B', e1, w⟩ := M_txs (Km := Km) hs hz hl.2 (zsl s).toNat Km 0 T F B (by first | decide | omega) (by first | decide | omega) (by first | decide | omega) (by first | decide | omega) h
  rw [e] at w
  exact ⟨F', B', e1, w⟩
/-- decimal digits -/
def decT (v : Int) : List Int := if v < 10 then [48 + v % 10] else if v < 100 then [48 + v / 10 % 10, 48 + v % 10] else [48 + v / 100 % 10, 48 + v / 10 % 10, 48 + v % 10]
theorem zdv1 {v : Int} (h : 0 ≤ v ∧ v < 1000) {p : Int} (hp : 0 < p ∧ p ≤ 1000) : zdv v p = v / p := zdv_e h.1 (by unfold r32; omega) hp.1 (by unfold r32; omega)
theorem zrm1 {v : Int} (h : 0 ≤ v ∧ v < 1000) : zrm v 10 = v % 10 := zrm_e h.1 (by unfold r32; omega) (by decide) (by decide)
theorem C_d31 {K : zK} {q : zF × zB} {T : List Int} {v l p : Int} {m : Nat} {F : zF} {B : zB} (h0 : 2 ≤ K.2 0) (hv : 0 ≤ v ∧ v < 1000) (hl : 0 ≤ l ∧ l < 5) (hp : p = 1 ∨ p = 10 ∨ p = 100) (h : TC q T F B) : ∃ F' B', f_ByteRow_putDecimal_31 K (m + 1) l p 1 v F B = f_ByteRow_putDecimal_31 K m (l + 1) (p / 10) 1 v F' B' ∧ TC q (T ++ [48 + v / p % 10]) F' B' := by
  have vp : 0 ≤ v / p ∧ v / p < 1000 := by rcases hp with rfl | rfl | rfl <;> omega
  obtain ⟨F1, B1, e1, w1⟩ := C_pt (a := 48 + v / p % 10) h0 h
  refine ⟨F1, B1, ?_, w1⟩
  rw [f_ByteRow_putDecimal_31, if_pos (by unfold r32; omega), if_neg (by first | decide | omega), if_pos (by unfold r32; omega), if_neg (by first | decide | omega), if_pos (iI_n0 (by first | decide | omega) (by unfold r32; omega)), if_pos (by first | decide | omega), zdv1 hv (by first | decide | omega), zrm1 vp, e1, zb_s, zdv1 (by first | decide | omega) (by first | decide | omega)]
theorem C_d0 {K : zK} {v l : Int} {m : Nat} {F : zF} {B : zB} (hl : 0 ≤ l ∧ l < 5) : f_ByteRow_putDecimal_31 K (m + 1) l 0 1 v F B = some (0, F, B) := by
  rw [f_ByteRow_putDecimal_31, if_pos (by unfold r32; omega), if_neg (by first | decide | omega), if_pos (by decide), if_pos (by decide), f_ByteRow_putDecimal_65]
theorem C_dec {K : zK} {q : zF × zB} {T : List Int} {v : Int} {F : zF} {B : zB} (h0 : 2 ≤ K.2 0) (hK : 200 ≤ K.1) (hv : 0 ≤ v ∧ v < 1000) (h : TC q T F B) : ∃ F' B', f_ByteRow_putDecimal K 1 v F B = some (0, F', B') ∧ TC q (T ++ decT v) F' B' := by
  obtain ⟨m, em⟩ : ∃ m, K.1 = m + 1 + 1 + 1 + 1 := ⟨K.1 - 4, (by first | decide | omega)⟩
  have e4 : ∀ (j : Nat) (l p : Int), 0 ≤ l → l < 5 → (p = 1 ∨ p = 10 ∨ p = 100) → f_ByteRow_putDecimal_4 K (j + 1) l p 1 v F B = if v / p < 10 then f_ByteRow_putDecimal_29 K p 1 v F B else f_ByteRow_putDecimal_4 K j (l + 1) (p * 10) 1 v F B := fun j l p l0 l1 hp => by
    have vp : 0 ≤ v / p ∧ v / p < 1000 := by rcases hp with rfl | rfl | rfl <;> omega
    rw [f_ByteRow_putDecimal_4, if_pos (by unfold r32; omega), if_neg (by first | decide | omega), if_pos (iI_n0 (by first | decide | omega) (by unfold r32; omega)), zdv1 hv (by first | decide | omega), if_pos (by unfold r32; omega)]
  have e0 : f_ByteRow_putDecimal K 1 v F B = f_ByteRow_putDecimal_4 K K.1 0 1 1 v F B := rfl
  have e29 : ∀ p, f_ByteRow_putDecimal_29 K p 1 v F B = f_ByteRow_putDecimal_31 K (m + 1 + 1 + 1 + 1) 0 p 1 v F B := fun p => by
    unfold f_ByteRow_putDecimal_29; rw [em]
  rw [e0, em]
  unfold decT
  by_cases z1 : v < 10
  · obtain ⟨F1, B1, a1, w1⟩ := C_d31 (m := m + 1 + 1 + 1) (l := 0) (p := 1) h0 hv (by decide) (Or.inl rfl) h
    rw [e4 _ 0 1 (by decide) (by decide) (Or.inl rfl), if_pos (by first | decide | omega), e29, a1, show (1 : Int) / 10 = 0 from rfl, C_d0 (by decide), if_pos z1]
    rw [show v / 1 % 10 = v % 10 by omega] at w1
    exact ⟨F1, B1, rfl, w1⟩
  · rw [e4 _ 0 1 (by decide) (by decide) (Or.inl rfl), if_neg (by first | decide | omega), show (1 : Int) * 10 = 10 from rfl, if_neg z1]
    by_cases z2 : v < 100
    · obtain ⟨F1, B1, a1, w1⟩ := C_d31 (m := m + 1 + 1 + 1) (l := 0) (p := 10) h0 hv (by decide) (Or.inr (Or.inl rfl)) h
      obtain ⟨F2, B2, a2, w2⟩ := C_d31 (m := m + 1 + 1) (l := 0 + 1) (p := 1) h0 hv (by decide) (Or.inl rfl) w1
      rw [e4 _ (0 + 1) 10 (by decide) (by decide) (Or.inr (Or.inl rfl)), if_pos (by first | decide | omega), e29, a1, show (10 : Int) / 10 = 1 from rfl, a2, show (1 : Int) / 10 = 0 from rfl, C_d0 (by decide), if_pos z2]
      rw [show v / 1 % 10 = v % 10 by omega, List.append_assoc] at w2
      exact ⟨F2, B2, rfl, w2⟩
    · obtain ⟨F1, B1, a1, w1⟩ := C_d31 (m := m + 1 + 1 + 1) (l := 0) (p := 100) h0 hv (by decide) (Or.inr (Or.inr rfl)) h
      obtain ⟨F2, B2, a2, w2⟩ := C_d31 (m := m + 1 + 1) (l := 0 + 1) (p := 10) h0 hv (by decide) (Or.inr (Or.inl rfl)) w1
      obtain ⟨F3, B3, a3, w3⟩ := C_d31 (m := m + 1) (l := 0 + 1 + 1) (p := 1) h0 hv (by decide) (Or.inl rfl) w2
      rw [e4 _ (0 + 1) 10 (by decide) (by decide) (Or.inr (Or.inl rfl)), if_neg (by first | decide | omega), show (10 : Int) * 10 = 100 from rfl, e4 _ (0 + 1 + 1) 100 (by decide) (by decide) (Or.inr (Or.inr rfl)), if_pos (by first | decide | omega), e29, a1, show (100 : Int) / 10 = 10 from rfl, a2, show (10 : Int) / 10 = 1 from rfl, a3, show (1 : Int) / 10 = 0 from rfl, C_d0 (by decide), if_neg z2]
      rw [show v / 1 % 10 = v % 10 by omega, List.append_assoc, List.append_assoc] at w3
      exact ⟨F3, B3, rfl, w3⟩
theorem M_d18 {Km : Nat} {q : zF × zB} {T : List Int} {v p : Int} {m : Nat} {F : zF} {B : zB} (hv : 0 ≤ v ∧ v < 1000) (hp : p = 1 ∨ p = 10 ∨ p = 100) (hn : T.length < 30000) (h : TM q T F B) : ∃ F' B', f_M_digits_18 Km (m + 1) p v F B = f_M_digits_18 Km m (p / 10) v F' B' ∧ TM q (T ++ [48 + v / p % 10]) F' B' := by
  have vp : 0 ≤ v / p ∧ v / p < 1000 := by rcases hp with rfl | rfl | rfl <;> omega
  obtain ⟨F1, B1, e1, w1⟩ := M_pt (Km := Km) (a := 48 + v / p % 10) hn h
  refine ⟨F1, B1, ?_, w1⟩
  rw [f_M_digits_18, if_pos (by unfold r32; omega), if_neg (by first | decide | omega), if_pos (iI_n0 (by first | decide | omega) (by unfold r32; omega)), zdv1 hv (by first | decide | omega), zrm1 vp, e1, zb_s, zdv1 (by first | decide | omega) (by first | decide | omega)]
theorem M_d0 {Km : Nat} {v : Int} {m : Nat} {F : zF} {B : zB} : f_M_digits_18 Km (m + 1) 0 v F B = some (0, F, B) := by
  rw [f_M_digits_18, if_pos (by decide), if_pos (by decide)]
theorem M_dec {Km : Nat} {q : zF × zB} {T : List Int} {v : Int} {F : zF} {B : zB} (hK : 200 ≤ Km) (hv : 0 ≤ v ∧ v < 1000) (hn : T.length < 20000) (h : TM q T F B) : ∃ F' B', f_M_digits Km v F B = some (0, F', B') ∧ TM q (T ++ decT v) F' B' := by
  obtain ⟨m, em⟩ : ∃ m, Km = m + 1 + 1 + 1 + 1 := ⟨Km - 4, (by first | decide | omega)⟩
  have ll : ∀ (U : List Int) (a : Int), (U ++ [a]).length = U.length + 1 := fun U a => by rw [List.length_append]; rfl
  have e4 : ∀ (j : Nat) (p : Int), (p = 1 ∨ p = 10 ∨ p = 100) → f_M_digits_2 Km (j + 1) p v F B = if v / p ≤ 9 then f_M_digits_18 Km Km p v F B else f_M_digits_2 Km j (p * 10) v F B := fun j p hp => by
    have vp : 0 ≤ v / p ∧ v / p < 1000 := by rcases hp with rfl | rfl | rfl <;> omega
    rw [f_M_digits_2, if_pos (iI_n0 (by first | decide | omega) (by unfold r32; omega)), zdv1 hv (by first | decide | omega), if_pos (by unfold r32; omega)]
  have e0 : ∀ i, i = m + 1 + 1 + 1 + 1 → f_M_digits Km v F B = f_M_digits_2 Km i 1 v F B := fun i ei => by rw [ei, ← em]; rfl
  have e18 : ∀ i p, i = m + 1 + 1 + 1 + 1 → f_M_digits_18 Km Km p v F B = f_M_digits_18 Km i p v F B := fun i p ei => by rw [ei, ← em]
  rw [e0 _ rfl]
  unfold decT
  by_cases z1 : v < 10
  · obtain ⟨F1, B1, a1, w1⟩ := M_d18 (Km := Km) (m := m + 1 + 1 + 1) (p := 1) hv (Or.inl rfl) (by first | decide | omega) h
    rw [e4 _ 1 (Or.inl rfl), if_pos (by first | decide | omega), e18 _ _ rfl, a1, show (1 : Int) / 10 = 0 from rfl, M_d0, if_pos z1]
    rw [show v / 1 % 10 = v % 10 by omega] at w1
    exact ⟨F1, B1, rfl, w1⟩
  · rw [e4 _ 1 (Or.inl rfl), if_neg (by first | decide | omega), show (1 : Int) * 10 = 10 from rfl, if_neg z1]
    by_cases z2 : v < 100
    · obtain ⟨F1, B1, a1, w1⟩ := M_d18 (Km := Km) (m := m + 1 + 1 + 1) (p := 10) hv (Or.inr (Or.inl rfl)) (by first | decide | omega) h
      obtain ⟨F2, B2, a2, w2⟩ := M_d18 (Km := Km) (m := m + 1 + 1) (p := 1) hv (Or.inl rfl) (by rw [ll]; omega) w1
      rw [e4 _ 10 (Or.inr (Or.inl rfl)), if_pos (by first | decide | omega), e18 _ _ rfl, a1, show (10 : Int) / 10 = 1 from rfl, a2, show (1 : Int) / 10 = 0 from rfl, M_d0, if_pos z2]
      rw [show v / 1 % 10 = v % 10 by omega, List.append_assoc] at w2
      exact ⟨F2, B2, rfl, w2⟩
    · obtain ⟨F1, B1, a1, w1⟩ := M_d18 (Km := Km) (m := m + 1 + 1 + 1) (p := 100) hv (Or.inr (Or.inr rfl)) (by first | decide | omega) h
      obtain ⟨F2, B2, a2, w2⟩ := M_d18 (Km := Km) (m := m + 1 + 1) (p := 10) hv (Or.inr (Or.inl rfl)) (by rw [ll]; omega) w1
      obtain ⟨F3, B3, a3, w3⟩ := M_d18 (Km := Km) (m := m + 1) (p := 1) hv (Or.inl rfl) (by rw [ll, ll]; omega) w2
      rw [e4 _ 10 (Or.inr (Or.inl rfl)), if_neg (by first | decide | omega), show (10 : Int) * 10 = 100 from rfl, e4 _ 100 (Or.inr (Or.inr rfl)), if_pos (by first | decide | omega), e18 _ _ rfl, a1, show (100 : Int) / 10 = 10 from rfl, a2, show (10 : Int) / 10 = 1 from rfl, a3, show (1 : Int) / 10 = 0 from rfl, M_d0, if_neg z2]
      rw [show v / 1 % 10 = v % 10 by omega, List.append_assoc, List.append_assoc] at w3
      exact ⟨F3, B3, rfl, w3⟩
end
