section
/-! ===== a pitch put into its event ===== -/
def shf (a top v : Int) (g : Int → Int) (k : Int) : Int := if k = a then v else if a < k ∧ k ≤ top then g (k - 1) else g k
theorem shf_s {a top v : Int} {g g' : Int → Int} (h : a < top) (h1 : ∀ k, ¬ k = top → g' k = g k) (h2 : g' top = g (top - 1)) (k : Int) : shf a (top - 1) v g' k = shf a top v g k := by
  unfold shf
  by_cases c : k = a
  · rw [if_pos c, if_pos c]
  · rw [if_neg c, if_neg c]
    by_cases d : a < k ∧ k ≤ top - 1
    · rw [if_pos d, if_pos (by first | decide | omega), h1 _ (by first | decide | omega)]
    · rw [if_neg d]
      by_cases e : k = top
      · rw [if_pos (by first | decide | omega), e, h2]
      · rw [if_neg (by first | decide | omega), h1 _ e]
theorem shf_0 {a v : Int} {g g' : Int → Int} (h1 : ∀ k, ¬ k = a → g' k = g k) (h2 : g' a = v) (k : Int) : g' k = shf a a v g k := by
  unfold shf
  by_cases c : k = a
  · rw [if_pos c, c, h2]
  · rw [if_neg c, if_neg (by first | decide | omega), h1 _ c]
theorem C75 {K : zK} {F : zF} {e s al a : Int} (he : 0 ≤ e ∧ e < K.2 1) (a0 : 0 ≤ a) : ∀ (j n : Nat) {l : Int} {B : zB}, l = a + j → l ≤ 5 → j < n → ∃ B', f_Event_insert_75 K n l a e s al F B = some (1, zup3 F 1 e 10 (F 1 e 10 + 1), B') ∧ (∀ k, B' 1 e 12 k = shf a l s (B 1 e 12) k) ∧ (∀ k, B' 1 e 13 k = shf a l al (B 1 e 13) k) ∧ ∀ c i k y, ¬ (c = 1 ∧ i = e ∧ (k = 12 ∨ k = 13)) → B' c i k y = B c i k y := by
  intro j
  induction j with
  | zero =>
    intro n l B hl h5 hn
    obtain ⟨n, rfl⟩ : ∃ m, n = m + 1 := ⟨n - 1, (by first | decide | omega)⟩
    have hl : l = a := by omega
    subst hl
    refine ⟨_, by unfold f_Event_insert_75; rw [if_pos (by unfold r32; omega), if_pos (by unfold r32; omega), if_pos (by first | decide | omega), if_pos he, if_pos (by first | decide | omega)], ?_, ?_, ?_⟩
    · exact fun k => shf_0 (fun k h => by rw [zup4_v, if_neg (by first | decide | omega), zup4_v, if_neg (by first | decide | omega)]) (by rw [zup4_v, if_neg (by first | decide | omega), zup4_v, if_pos (by first | decide | omega)]) k
    · exact fun k => shf_0 (fun k h => by rw [zup4_v, if_neg (by first | decide | omega), zup4_v, if_neg (by first | decide | omega)]) (by rw [zup4_v, if_pos (by first | decide | omega)]) k
    · intro c i k y h
      rw [zup4_v, if_neg (by first | decide | omega), zup4_v, if_neg (by first | decide | omega)]
  | succ j ih =>
    intro n l B hl h5 hn
    obtain ⟨n, rfl⟩ : ∃ m, n = m + 1 := ⟨n - 1, (by first | decide | omega)⟩
    obtain ⟨B', h, g1, g2, g3⟩ := ih n (l := l - 1) (B := zup4 (zup4 B 1 e 12 l (B 1 e 12 (l - 1))) 1 e 13 l ((zup4 B 1 e 12 l (B 1 e 12 (l - 1))) 1 e 13 (l - 1))) (by first | decide | omega) (by first | decide | omega) (by first | decide | omega)
    refine ⟨B', ?_, ?_, ?_, ?_⟩
    · unfold f_Event_insert_75
      rw [if_pos (by unfold r32; omega), if_pos (by unfold r32; omega), if_neg (by first | decide | omega), if_pos he, if_pos (by first | decide | omega), if_pos (by first | decide | omega), h]
    · intro k
      rw [g1, shf_s (g := B 1 e 12) (by first | decide | omega) (fun k h => by rw [zup4_v, if_neg (by first | decide | omega), zup4_v, if_neg (by first | decide | omega)]) (by rw [zup4_v, if_neg (by first | decide | omega), zup4_v, if_pos (by first | decide | omega)])]
    · intro k
      rw [g2, shf_s (g := B 1 e 13) (by first | decide | omega) (fun k h => by rw [zup4_v, if_neg (by first | decide | omega), zup4_v, if_neg (by first | decide | omega)]) (by rw [zup4_v, if_pos (by first | decide | omega), zup4_v, if_neg (by first | decide | omega)])]
    · intro c i k y h
      rw [g3 c i k y h, zup4_v, if_neg (by first | decide | omega), zup4_v, if_neg (by first | decide | omega)]
theorem C24 {K : zK} {F : zF} {B : zB} {e s al : Int} (he : 0 ≤ e ∧ e < K.2 1) (hs : r32 s) {c0 : Int} (hc0 : c0 ≤ 6) (hb : ∀ k, 0 ≤ k → k < c0 → r32 (B 1 e 12 k)) : ∀ (j n : Nat), j ≤ c0 → j < n → ∃ a, f_Event_insert_24 K n ((j : Int) - 1) j e s al F B = f_Event_insert_49 K a e s al F B ∧ (0 ≤ a ∧ a ≤ j) ∧ (∀ k, a ≤ k → k < j → s ≤ B 1 e 12 k) ∧ (a = 0 ∨ B 1 e 12 (a - 1) < s) := by
  intro j
  induction j with
  | zero =>
    intro n h6 hn
    obtain ⟨n, rfl⟩ : ∃ m, n = m + 1 := ⟨n - 1, (by first | decide | omega)⟩
    refine ⟨0, ?_, (by first | decide | omega), fun k a b => (by first | decide | omega), Or.inl rfl⟩
    unfold f_Event_insert_24
    rw [if_pos (by decide), if_pos (by decide)]
    rfl
  | succ j ih =>
    intro n h6 hn
    obtain ⟨n, rfl⟩ : ∃ m, n = m + 1 := ⟨n - 1, (by first | decide | omega)⟩
    rw [show ((j + 1 : Nat) : Int) - 1 = (j : Int) by omega]
    have st : f_Event_insert_24 K (n + 1) j ((j + 1 : Nat) : Int) e s al F B = if B 1 e 12 j < s then f_Event_insert_49 K ((j + 1 : Nat) : Int) e s al F B else f_Event_insert_24 K n ((j : Int) - 1) j e s al F B := by
      rw [f_Event_insert_24, if_pos (by unfold r32; omega), if_neg (by first | decide | omega), if_pos he, if_pos (by first | decide | omega), if_pos (hb j (by first | decide | omega) (by first | decide | omega)), if_pos hs]
    rw [st]
    by_cases c : B 1 e 12 j < s
    · exact ⟨((j + 1 : Nat) : Int), by rw [if_pos c], (by first | decide | omega), fun k a b => (by first | decide | omega), Or.inr (by rw [show ((j + 1 : Nat) : Int) - 1 = (j : Int) by omega]; exact c)⟩
    · obtain ⟨a, h1, h2, h3, h4⟩ := ih n (by first | decide | omega) (by first | decide | omega)
      refine ⟨a, by rw [if_neg c, h1], (by first | decide | omega), fun k p q => ?_, h4⟩
      by_cases z : k = j
      · rw [z]; omega
      · exact h3 k p (by first | decide | omega)
/-- one event's pitches on both sides -/
def EPR (e x w c : Int) (F : zF) (B Bm : zB) : Prop := F 1 e 10 = c ∧ Bm 13 w 21 x = c ∧ (0 ≤ c ∧ c ≤ 6) ∧ (∀ k, 0 ≤ k → k < c → B 1 e 12 k = Bm 13 w 28 (6 * x + k) ∧ B 1 e 13 k = Bm 13 w 29 (6 * x + k) ∧ (0 ≤ B 1 e 12 k ∧ B 1 e 12 k ≤ 62) ∧ (-2 ≤ B 1 e 13 k ∧ B 1 e 13 k ≤ 2)) ∧ (∀ j k, 0 ≤ j → j < k → k < c → B 1 e 12 j < B 1 e 12 k)
theorem L_failAtB {K : Nat} {F : zF} {B : zB} {s i : Int} (h : bad F) : f_M_failAt K s i F B = some (0, F, B) := by
  unfold bad at h
  unfold f_M_failAt
  rw [if_pos (by unfold r32; omega), if_neg (by first | decide | omega)]
theorem L184b {K : Nat} {F : zF} {B : zB} {w f t s x p h : Int} (hw : F 14 0 6 = w) (h6 : 0 ≤ w ∧ w < 3) (hB : bad F) (hs : r32 s) (hp : 0 ≤ p ∧ p < 3001) (hh : 0 ≤ h ∧ h ≤ 24000) (hr : ∀ k, 0 ≤ k → k < h → f ≤ k → r32 (B 13 w 28 k)) : ∀ (j n : Nat) {l : Int}, 0 ≤ l → f ≤ l → l ≤ h → (h - l).toNat = j → j < n → f_M_pitchOf_184 K n l h f t s x p F B = some (0, F, B) := by
  intro j
  induction j with
  | zero =>
    intro n l l0 lf l1 hj hn
    obtain ⟨n, rfl⟩ : ∃ m, n = m + 1 := ⟨n - 1, (by first | decide | omega)⟩
    unfold f_M_pitchOf_184
    rw [if_pos (by unfold r32; omega), if_pos (by unfold r32; omega), if_pos (by first | decide | omega), L_goodB hB, zb_s, if_pos (by decide), if_pos rfl]
  | succ j ih =>
    intro n l l0 lf l1 hj hn
    obtain ⟨n, rfl⟩ : ∃ m, n = m + 1 := ⟨n - 1, (by first | decide | omega)⟩
    unfold f_M_pitchOf_184 f_M_pitchOf_212
    rw [hw, if_pos (by unfold r32; omega), if_pos (by unfold r32; omega), if_neg (by first | decide | omega), if_pos h6, if_pos (by first | decide | omega), if_pos (hr l (by first | decide | omega) (by first | decide | omega) lf), if_pos hs, L_failAtB hB, zb_s, ih n (by first | decide | omega) (by first | decide | omega) (by first | decide | omega) (by first | decide | omega) (by first | decide | omega)]
    split <;> rfl
theorem L184n {K : Nat} {F : zF} {B : zB} {w f t s x p h : Int} (hw : F 14 0 6 = w) (h6 : 0 ≤ w ∧ w < 3) (hB : F 14 0 17 = 0) (hs : r32 s) (hh : 0 ≤ h ∧ h ≤ 24000) (hr : ∀ k, 0 ≤ k → k < h → f ≤ k → r32 (B 13 w 28 k) ∧ ¬ B 13 w 28 k = s) : ∀ (j n : Nat) {l : Int}, 0 ≤ l → f ≤ l → l ≤ h → (h - l).toNat = j → j < n → f_M_pitchOf_184 K n l h f t s x p F B = f_M_pitchOf_226 K K h f t s x F B := by
  intro j
  induction j with
  | zero =>
    intro n l l0 lf l1 hj hn
    obtain ⟨n, rfl⟩ : ∃ m, n = m + 1 := ⟨n - 1, (by first | decide | omega)⟩
    unfold f_M_pitchOf_184
    rw [if_pos (by unfold r32; omega), if_pos (by unfold r32; omega), if_pos (by first | decide | omega), L_good hB, zb_s, if_pos (by decide), if_neg (by decide)]
  | succ j ih =>
    intro n l l0 lf l1 hj hn
    obtain ⟨n, rfl⟩ : ∃ m, n = m + 1 := ⟨n - 1, (by first | decide | omega)⟩
    unfold f_M_pitchOf_184 f_M_pitchOf_212
    rw [hw, if_pos (by unfold r32; omega), if_pos (by unfold r32; omega), if_neg (by first | decide | omega), if_pos h6, if_pos (by first | decide | omega), if_pos (hr l (by first | decide | omega) (by first | decide | omega) lf).1, if_pos hs, if_neg (hr l (by first | decide | omega) (by first | decide | omega) lf).2, ih n (by first | decide | omega) (by first | decide | omega) (by first | decide | omega) (by first | decide | omega) (by first | decide | omega)]
/-- the reference's fault at a token -/
def flM (F : zF) (B : zB) (s i : Int) : zF := zup3 (zup3 F 14 0 17 s) 14 0 18 (B 14 0 8 i)
theorem L_failAt {K : Nat} {F : zF} {B : zB} {s i : Int} (h : F 14 0 17 = 0) (hi : 0 ≤ i ∧ i < 3001) : f_M_failAt K s i F B = some (0, flM F B s i, B) := by
  unfold f_M_failAt flM
  rw [h, if_pos (by decide), if_pos (by decide), if_pos hi]
theorem flM_17 {F : zF} {B : zB} {s i : Int} : flM F B s i 14 0 17 = s := by
  unfold flM
  rw [zup3_v, if_neg (by decide), zup3_v, if_pos (by decide)]
theorem flM_18 {F : zF} {B : zB} {s i : Int} : flM F B s i 14 0 18 = B 14 0 8 i := by
  unfold flM
  rw [zup3_v, if_pos (by decide)]
theorem flM_n {F : zF} {B : zB} {s i : Int} {c k : Nat} {y : Int} (h : ¬ (c = 14 ∧ y = 0 ∧ (k = 17 ∨ k = 18))) : flM F B s i c y k = F c y k := by
  unfold flM
  rw [zup3_v, if_neg (by first | decide | omega), zup3_v, if_neg (by first | decide | omega)]
theorem flM_b {F : zF} {B : zB} {s i : Int} (h : 1 ≤ s) (h' : s ≤ 15) : bad (flM F B s i) := by
  unfold bad
  rw [flM_17]
  exact ⟨h, h'⟩
theorem L184y {K : Nat} {F : zF} {B : zB} {w f t s x p h a : Int} (hw : F 14 0 6 = w) (h6 : 0 ≤ w ∧ w < 3) (hB : F 14 0 17 = 0) (hs : r32 s) (hp : 0 ≤ p ∧ p < 3001) (hh : 0 ≤ h ∧ h ≤ 24000) (hr : ∀ k, 0 ≤ k → k < h → f ≤ k → r32 (B 13 w 28 k)) (ha : B 13 w 28 a = s) (ah : a < h) : ∀ (j n : Nat) {l : Int}, 0 ≤ l → f ≤ l → l ≤ a → (h - l).toNat = j → j < n → f_M_pitchOf_184 K n l h f t s x p F B = some (0, flM F B 9 p, B) := by
  intro j
  induction j with
  | zero => intro n l l0 lf l1 hj hn; omega
  | succ j ih =>
    intro n l l0 lf l1 hj hn
    obtain ⟨n, rfl⟩ : ∃ m, n = m + 1 := ⟨n - 1, (by first | decide | omega)⟩
    unfold f_M_pitchOf_184 f_M_pitchOf_212
    rw [hw, if_pos (by unfold r32; omega), if_pos (by unfold r32; omega), if_neg (by first | decide | omega), if_pos h6, if_pos (by first | decide | omega), if_pos (hr l (by first | decide | omega) (by first | decide | omega) lf), if_pos hs]
    by_cases c : B 13 w 28 l = s
    · rw [if_pos c, L_failAt hB hp, zb_s, L184b (by rw [flM_n (by decide)]; exact hw) h6 (flM_b (by decide) (by decide)) hs hp hh hr j n (by first | decide | omega) (by first | decide | omega) (by first | decide | omega) (by first | decide | omega) (by first | decide | omega)]
    · have la : ¬ l = a := fun z => c (by rw [z]; exact ha)
      rw [if_neg c, ih n (by first | decide | omega) (by first | decide | omega) (by first | decide | omega) (by first | decide | omega) (by first | decide | omega)]
theorem L226 {K : Nat} {F : zF} {w t s x a f : Int} (hw : F 14 0 6 = w) (h6 : 0 ≤ w ∧ w < 3) (s0 : 0 ≤ s) (s1 : s ≤ 62) (hx : 0 ≤ x ∧ x < 4000) (f0 : 0 ≤ f) (fa : f ≤ a) : ∀ (j n : Nat) {l : Int} {B : zB}, l = a + j → l < 24000 → j < n → (∀ k, f ≤ k → k < l → r32 (B 13 w 28 k)) → (∀ k, a ≤ k → k < l → s < B 13 w 28 k) → (a = f ∨ B 13 w 28 (a - 1) ≤ s) → ∃ B', f_M_pitchOf_226 K n l f t s x F B = some (0, F, B') ∧ (∀ k, B' 13 w 28 k = shf a l s (B 13 w 28) k) ∧ (∀ k, B' 13 w 29 k = shf a l (t - tnv s) (B 13 w 29) k) ∧ B' 13 w 21 x = B 13 w 21 x + 1 ∧ ∀ c i k y, ¬ (c = 13 ∧ i = w ∧ (k = 28 ∨ k = 29 ∨ (k = 21 ∧ y = x))) → B' c i k y = B c i k y := by
  intro j
  induction j with
  | zero =>
    intro n l B hl h5 hn hr hg hm
    obtain ⟨n, rfl⟩ : ∃ m, n = m + 1 := ⟨n - 1, (by first | decide | omega)⟩
    have hl : l = a := by omega
    subst hl
    have e99 : f_M_pitchOf_226 K (n + 1) l f t s x F B = f_M_pitchOf_299 K l t s x F B := by
      unfold f_M_pitchOf_226
      rw [hw, if_pos (by unfold r32; omega), if_pos (by unfold r32; omega)]
      by_cases c : l ≤ f
      · rw [if_pos c]
      · rw [if_neg c, if_pos h6, if_pos (by first | decide | omega), if_pos (hr (l - 1) (by first | decide | omega) (by first | decide | omega) |> fun z => z), if_pos (by unfold r32; omega), if_pos (by first | decide | omega)]
    refine ⟨_, by rw [e99]; unfold f_M_pitchOf_299; rw [hw, if_pos h6, if_pos (by first | decide | omega), L_tonP s0 s1, zb_s, hw, if_pos h6, if_pos hx, Int.add_zero], ?_, ?_, ?_, ?_⟩
    · exact fun k => shf_0 (fun k h => by rw [zup4_v, if_neg (by first | decide | omega), zup4_v, if_neg (by first | decide | omega), zup4_v, if_neg (by first | decide | omega)]) (by rw [zup4_v, if_neg (by first | decide | omega), zup4_v, if_neg (by first | decide | omega), zup4_v, if_pos (by first | decide | omega)]) k
    · exact fun k => shf_0 (fun k h => by rw [zup4_v, if_neg (by first | decide | omega), zup4_v, if_neg (by first | decide | omega), zup4_v, if_neg (by first | decide | omega)]) (by rw [zup4_v, if_neg (by first | decide | omega), zup4_v, if_pos (by first | decide | omega)]) k
    · rw [zup4_v, if_pos (by first | decide | omega), zup4_v, if_neg (by first | decide | omega), zup4_v, if_neg (by first | decide | omega)]
    · intro c i k y h
      rw [zup4_v, if_neg (by first | decide | omega), zup4_v, if_neg (by first | decide | omega), zup4_v, if_neg (by first | decide | omega)]
  | succ j ih =>
    intro n l B hl h5 hn hr hg hm
    obtain ⟨n, rfl⟩ : ∃ m, n = m + 1 := ⟨n - 1, (by first | decide | omega)⟩
    have e : ∀ k, ¬ k = l → (zup4 (zup4 B 13 w 28 l (B 13 w 28 (l - 1))) 13 w 29 l ((zup4 B 13 w 28 l (B 13 w 28 (l - 1))) 13 w 29 (l - 1))) 13 w 28 k = B 13 w 28 k := fun k h => by rw [zup4_v, if_neg (by first | decide | omega), zup4_v, if_neg (by first | decide | omega)]
    obtain ⟨B', h, g1, g2, g3, g4⟩ := ih n (l := l - 1) (B := zup4 (zup4 B 13 w 28 l (B 13 w 28 (l - 1))) 13 w 29 l ((zup4 B 13 w 28 l (B 13 w 28 (l - 1))) 13 w 29 (l - 1))) (by first | decide | omega) (by first | decide | omega) (by first | decide | omega) (fun k p q => by rw [e k (by first | decide | omega)]; exact hr k p (by first | decide | omega)) (fun k p q => by rw [e k (by first | decide | omega)]; exact hg k p (by first | decide | omega)) (by rw [e (a - 1) (by first | decide | omega)]; exact hm)
    have gl := hg (l - 1) (by first | decide | omega) (by first | decide | omega)
    refine ⟨B', ?_, ?_, ?_, ?_, ?_⟩
    · unfold f_M_pitchOf_226
      rw [hw, if_pos (by unfold r32; omega), if_pos (by unfold r32; omega), if_neg (by first | decide | omega), if_pos h6, if_pos (by first | decide | omega), if_pos (hr (l - 1) (by first | decide | omega) (by first | decide | omega)), if_pos (by unfold r32; omega), if_neg (by first | decide | omega), if_pos (by first | decide | omega), h]
    · intro k
      rw [g1, shf_s (g := B 13 w 28) (by first | decide | omega) e (by rw [zup4_v, if_neg (by first | decide | omega), zup4_v, if_pos (by first | decide | omega)])]
    · intro k
      rw [g2, shf_s (g := B 13 w 29) (by first | decide | omega) (fun k h => by rw [zup4_v, if_neg (by first | decide | omega), zup4_v, if_neg (by first | decide | omega)]) (by rw [zup4_v, if_pos (by first | decide | omega), zup4_v, if_neg (by first | decide | omega)])]
    · rw [g3, zup4_v, if_neg (by first | decide | omega), zup4_v, if_neg (by first | decide | omega)]
    · intro c i k y h
      rw [g4 c i k y h, zup4_v, if_neg (by first | decide | omega), zup4_v, if_neg (by first | decide | omega)]
end
