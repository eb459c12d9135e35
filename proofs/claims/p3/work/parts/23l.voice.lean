section
/-! ===== a voice, on both sides ===== -/
theorem zcmp_le {x : Int} : zcmp x 0 ≤ 0 ↔ x ≤ 0 := by
  unfold zcmp
  split
  · exact ⟨fun _ => by omega, fun _ => by decide⟩
  · split
    · exact ⟨fun _ => by omega, fun _ => by decide⟩
    · exact ⟨fun z => by omega, fun z => by omega⟩
theorem L_108 {Km : Nat} {v : Int} {F : zF} {B : zB} : ∀ {m n : Nat} {x c : Int}, m < n → 0 ≤ x → x < 256 ^ m → x < 9223372036854775808 → f_M_voiceText_108 Km n x c v F B = f_M_voiceText_108 Km 1 0 (c + ltr m x) v F B := by
  intro m
  induction m with
  | zero =>
    intro n x c hn h0 h1 h2
    obtain ⟨n, rfl⟩ : ∃ y, n = y + 1 := ⟨n - 1, by omega⟩
    have : x = 0 := by
      have : (256 : Int) ^ 0 = 1 := rfl
      omega
    subst this
    rw [show c + ltr 0 0 = c by unfold ltr; omega]
    rw [f_M_voiceText_108, f_M_voiceText_108]
    rw [if_pos (show r64 0 by decide), if_pos (show r64 0 by decide), if_pos (zcmp_le.mpr (by omega)), if_pos (zcmp_le.mpr (by omega))]
  | succ m ih =>
    intro n x c hn h0 h1 h2
    obtain ⟨n, rfl⟩ : ∃ y, n = y + 1 := ⟨n - 1, by omega⟩
    by_cases e : x ≤ 0
    · have : x = 0 := by omega
      subst this
      rw [show c + ltr (m + 1) 0 = c by unfold ltr; rw [if_pos (by omega)]; omega]
      rw [f_M_voiceText_108, f_M_voiceText_108]
      rw [if_pos (show r64 0 by decide), if_pos (show r64 0 by decide), if_pos (zcmp_le.mpr (by omega)), if_pos (zcmp_le.mpr (by omega))]
    · have hp : (256 : Int) ^ (m + 1) = 256 ^ m * 256 := Int.pow_succ 256 m
      rw [f_M_voiceText_108]
      rw [if_pos (show r64 x by omega), if_neg (fun z => e (zcmp_le.mp z)), zlshr8 h0 h2, ih (by omega) (by omega) (by omega) (by omega)]
      rw [show c + 1 + ltr m (x / 256) = c + ltr (m + 1) x by
        rw [show ltr (m + 1) x = 1 + ltr m (x / 256) by rw [ltr]; rw [if_neg e]]
        omega]
theorem EV_K {K K' : zK} {Km : Nat} {N : Int} {B Bm : zB} (h : EV K Km N B Bm) (hK : Kle K K') : EV K' Km N B Bm := by
  obtain ⟨a, b, c, d, e, f, g⟩ := h
  exact ⟨a, b, c, Int.lt_of_lt_of_le d (hK.2 3), Int.lt_of_lt_of_le e (hK.2 10), by rw [hK.1]; exact f, g⟩
/-- how many places of a piece hold no part -/
def em (B : zB) (p : Int) : Int := (if B 6 p 0 0 < 0 then 1 else 0) + (if B 6 p 0 1 < 0 then 1 else 0) + (if B 6 p 0 2 < 0 then 1 else 0) + (if B 6 p 0 3 < 0 then 1 else 0)
theorem em_e {B B' : zB} {p : Int} (h : ∀ v, B' 6 p 0 v = B 6 p 0 v) : em B' p = em B p := by
  unfold em
  rw [h, h, h, h]
theorem em_1 {B B' : zB} {p V : Int} (hV : 0 ≤ V ∧ V < 4) (h : ∀ v, ¬ v = V → B' 6 p 0 v = B 6 p 0 v) (h0 : B 6 p 0 V < 0) (h1 : 0 ≤ B' 6 p 0 V) : em B' p + 1 = em B p := by
  have : V = 0 ∨ V = 1 ∨ V = 2 ∨ V = 3 := by omega
  unfold em
  rcases this with rfl | rfl | rfl | rfl
  · rw [h 1 (by decide), h 2 (by decide), h 3 (by decide), if_neg (by omega), if_pos h0]; omega
  · rw [h 0 (by decide), h 2 (by decide), h 3 (by decide), if_neg (show ¬ B' 6 p 0 1 < 0 by omega), if_pos h0]; omega
  · rw [h 0 (by decide), h 1 (by decide), h 3 (by decide), if_neg (show ¬ B' 6 p 0 2 < 0 by omega), if_pos h0]; omega
  · rw [h 0 (by decide), h 1 (by decide), h 2 (by decide), if_neg (show ¬ B' 6 p 0 3 < 0 by omega), if_pos h0]; omega
def VF (K : zK) (p w : Int) (F : zF) (B : zB) (Fm : zF) (Bm : zB) (K' : zK) (F' : zF) (B' : zB) (Fm' : zF) (Bm' : zB) : Prop := Kle K K' ∧ (∀ c y k, y < K.2 c → ¬ (c = 10 ∧ y = 0) → ¬ (c = 3 ∧ y = 0 ∧ k ≠ 11) → ¬ (c = 6 ∧ y = p ∧ 1 ≤ k ∧ k ≤ 6) → ¬ (c = 4 ∧ ∃ v, 0 ≤ v ∧ v < 4 ∧ y = B 6 p 0 v) → F' c y k = F c y k) ∧ (∀ c y k x, y < K.2 c → ¬ (c = 3 ∧ y = 0) → ¬ (c = 6 ∧ y = p ∧ k = 0) → B' c y k x = B c y k x) ∧ (∀ v, 0 ≤ v → v < 4 → B' 6 p 0 v = B 6 p 0 v ∨ (B 6 p 0 v < 0 ∧ K.2 4 ≤ B' 6 p 0 v)) ∧ (∀ c i k, ¬ (c = 14 ∧ i = 0 ∧ 16 ≤ k ∧ k ≤ 27) → ¬ (c = 13 ∧ i = w ∧ 1 ≤ k ∧ k ≤ 6) → Fm' c i k = Fm c i k) ∧ (∀ c i k x, ¬ (c = 14 ∧ i = 0 ∧ 25 ≤ k ∧ k ≤ 34) → ¬ (c = 13 ∧ i = w ∧ 8 ≤ k ∧ k ≤ 11) → Bm' c i k x = Bm c i k x) ∧ (∀ q s, K.2 4 ≤ q → q < K'.2 4 → r32 (B' 4 q 12 s)) ∧ ((∀ c, ¬ (c = 1 ∨ c = 4) → K'.2 c = K.2 c) ∧ K'.2 1 = K.2 1 + 200 * (K'.2 4 - K.2 4) ∧ K'.2 4 + em B' p = K.2 4 + em B p) ∧ (F' 6 p 1 = F 6 p 1 ∨ (0 ≤ F' 6 p 1 ∧ F' 6 p 1 ≤ 4))
theorem VF_r {K : zK} {p w : Int} {F : zF} {B : zB} {Fm : zF} {Bm : zB} : VF K p w F B Fm Bm K F B Fm Bm := ⟨Kle_r, fun _ _ _ _ _ _ _ _ => rfl, fun _ _ _ _ _ _ _ => rfl, fun _ _ _ => Or.inl rfl, fun _ _ _ _ _ => rfl, fun _ _ _ _ _ _ => rfl, fun q s a b => by omega, ⟨fun _ _ => rfl, by omega, rfl⟩, Or.inl rfl⟩
theorem VF_t {K : zK} {p w : Int} {F : zF} {B : zB} {Fm : zF} {Bm : zB} {K' : zK} {F' : zF} {B' : zB} {Fm' : zF} {Bm' : zB} {K'' : zK} {F'' : zF} {B'' : zB} {Fm'' : zF} {Bm'' : zB} (h : VF K p w F B Fm Bm K' F' B' Fm' Bm') (h' : VF K' p w F' B' Fm' Bm' K'' F'' B'' Fm'' Bm'') : VF K p w F B Fm Bm K'' F'' B'' Fm'' Bm'' := by
  obtain ⟨a1, a2, a3, a4, a5, a6, a7, ⟨a8, a9, a10⟩, a11⟩ := h
  obtain ⟨b1, b2, b3, b4, b5, b6, b7, ⟨b8, b9, b10⟩, b11⟩ := h'
  refine ⟨Kle_t a1 b1, fun c y k h h1 h2 h3 h4 => ?_, fun c y k x h h1 h2 => ?_, fun v v0 v1 => ?_, fun c i k h h1 => ?_, fun c i k x h h1 => ?_, fun q s h0 h1 => ?_, ⟨fun c hc => by rw [b8 c hc, a8 c hc], by omega, by omega⟩, by omega⟩
  · rw [b2 c y k (Int.lt_of_lt_of_le h (a1.2 c)) h1 h2 h3 ?_]
    · exact a2 c y k h h1 h2 h3 h4
    · rintro ⟨z, v, v0, v1, e⟩
      subst z
      rcases a4 v v0 v1 with q | q
      · exact h4 ⟨rfl, v, v0, v1, e.trans q⟩
      · omega
  · rw [b3 c y k x (Int.lt_of_lt_of_le h (a1.2 c)) h1 h2]; exact a3 c y k x h h1 h2
  · have k4 := a1.2 4
    rcases b4 v v0 v1 with q | q
    · rw [q]; exact a4 v v0 v1
    · rcases a4 v v0 v1 with s | s
      · exact Or.inr ⟨by omega, by omega⟩
      · omega
  · rw [b5 c i k h h1]; exact a5 c i k h h1
  · rw [b6 c i k x h h1]; exact a6 c i k x h h1
  · by_cases e : q < K'.2 4
    · rw [b3 4 q 12 s e (by omega) (by omega)]; exact a7 q s h0 e
    · exact b7 q s (by omega) h1
/-- frames of heads and lets are frames of voices -/
theorem VF_h {K : zK} {p w : Int} {F : zF} {B : zB} {Fm : zF} {Bm : zB} {F' : zF} {B' : zB} {Fm' : zF} {Bm' : zB} (h1 : hF p F F') (h2 : hG w Fm Fm') (h3 : tB B B') (h4 : tM Bm Bm') : VF K p w F B Fm Bm K F' B' Fm' Bm' := ⟨Kle_r, fun c y k _ a b d _ => h1 c y k a b (fun z => d ⟨z.1, z.2.1, by have := z.2.2.1; omega, z.2.2.2⟩), fun c y k x _ a _ => h3 c y k x a, fun v _ _ => Or.inl (h3 6 p 0 v (fun z => absurd z.1 (by decide))), fun c i k a b => h2 c i k a (fun z => b ⟨z.1, z.2.1, by have := z.2.2.1; omega, z.2.2.2⟩), fun c i k x a _ => h4 c i k x a, fun q s a b => by omega, ⟨fun _ _ => rfl, by omega, by rw [em_e (fun v => h3 6 p 0 v (fun z => absurd z.1 (by decide)))]⟩, Or.inl (h1 6 p 1 (fun z => absurd z.1 (by decide)) (fun z => absurd z.1 (by decide)) (fun z => absurd z.2.2.1 (by decide)))⟩
theorem SVC_t {L hi hi' ph ph' e e' x a : Int} {B Bm B' Bm' : zB} (h : SVC L hi ph e x a B Bm) (aB : agB L 0 hi 0 ph (-1) B B') (aM : agM L 0 e Bm Bm') (h1 : hi ≤ hi') (h2 : ph ≤ ph') (h3 : e ≤ e') : SVC L hi' ph' e' x a B' Bm' := fun Bx By ab am => h Bx By (agB_t aB (agB_m ab (Int.le_refl _) h1 (Int.le_refl _) h2 (Or.inl rfl))) (agM_t aM (agM_m am (Int.le_refl _) h3))
end
