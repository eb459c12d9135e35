section
/-! ===== a run of bytes becomes a token, on the class's side ===== -/
def frC (ks : List Nat) (T : Int) (B B' : zB) : Prop := ∀ c i k j, ¬ (c = 10 ∧ i = 0 ∧ k ∈ ks ∧ j = T) → B' c i k j = B c i k j
theorem frC_r {ks : List Nat} {T : Int} {B : zB} : frC ks T B B := fun _ _ _ _ _ => rfl
theorem frC_u {ks : List Nat} {k : Nat} {T v : Int} {B B' : zB} (h : frC ks T B B') (hk : k ∈ ks) : frC ks T B (zup4 B' 10 0 k T v) := by
  intro c i x j hn
  rw [zup4_v, if_neg (fun z => hn ⟨z.1, z.2.1, by rw [z.2.2.1]; exact hk, z.2.2.2⟩)]
  exact h c i x j hn
theorem frC_t {ks : List Nat} {T : Int} {B B' B'' : zB} (h : frC ks T B B') (h' : frC ks T B' B'') : frC ks T B B'' := fun c i k j hn => by rw [h' c i k j hn, h c i k j hn]
theorem frC_0 {ks : List Nat} {T : Int} {B B' : zB} (h : frC ks T B B') : B' 0 0 0 = B 0 0 0 := by
  funext y; exact h 0 0 0 y (by simp)
theorem C_joi {K : zK} {F : zF} {B : zB} {fr base zero size : Int} (hK : 3002 ≤ K.1) (hK0 : 0 < K.2 0) (h2 : F 0 0 1 ≤ 3000) (hb : ∀ y, 0 ≤ B 0 0 0 y ∧ B 0 0 0 y < 256) (hr1 : r32 base) (hr2 : r32 zero) (hf : 0 ≤ fr) (hs : 0 ≤ size) (he : fr + size ≤ F 0 0 1) : f_Tokens_joined K 0 fr size base zero F B = some (nmv (B 0 0 0) base zero fr size.toNat, F, B) := by
  unfold f_Tokens_joined
  rw [C_joined hK0 h2 hb hr1 hr2 hf hs he (by first | decide | omega) (by first | decide | omega) (by first | decide | omega)]
  have := joinS_e (t := B 0 0 0) (fr := fr) (base := base) (zero := zero) (size := size) (f := K.1) (m := 0) (by first | decide | omega) (by first | decide | omega)
  rw [show joinS (B 0 0 0) fr base zero K.1 0 0 size = nmv (B 0 0 0) base zero fr size.toNat from this]
theorem C_pitV {K : zK} {F : zF} {B : zB} {p q : Int} (hK0 : 0 < K.2 0) (h2 : F 0 0 1 ≤ 3000) (hb : ∀ y, 0 ≤ B 0 0 0 y ∧ B 0 0 0 y < 256) (hp : 0 ≤ p) (hpq : p + 2 ≤ q) (hq : q ≤ F 0 0 1) (h97 : 97 ≤ B 0 0 0 p) : f_Tokens_pitchValue K 0 p (q - p) F B = some (8 * pitV (B 0 0 0) p q + pitA (B 0 0 0) p (q - p) + 2, F, B) := by
  have b1 := hb p
  have b2 := hb (q - 1)
  have b3 := hb (p + 1)
  have e0 : p + (q - p) - 1 = q - 1 := by omega
  have e1 : zrm (B 0 0 0 p - 97 + 5) 7 = (B 0 0 0 p - 99) % 7 := by
    rw [zrm_e (by first | decide | omega) (by first | decide | omega) (by decide) (by decide)]; omega
  refine zW_ex ?_
  unfold f_Tokens_pitchValue
  refine zW_g (by first | omega | (rw [e0, e1]; omega)) ?_
  refine zW_e (C_at0 hK0 (by first | decide | omega) (by first | decide | omega) h2) ?_
  refine zW_e (C_at0 hK0 (by first | decide | omega) (by first | decide | omega) h2) ?_
  refine zW_e (C_at0 hK0 (by first | decide | omega) (by first | decide | omega) h2) ?_
  refine zW_g (by first | omega | (rw [e0, e1]; omega)) ?_
  refine zW_i (fun h1 => ?_) (fun h1 => ?_)
  · skip
    unfold f_Tokens_pitchValue_54
    refine zW_g (by first | omega | (rw [e0, e1]; omega)) ?_
    refine zW_s ?_
    refine ⟨?_, rfl, rfl⟩
    unfold pitV pitA
    rw [e0, e1, if_pos h1]
  · skip
    unfold f_Tokens_pitchValue_54
    refine zW_g (by first | omega | (rw [e0, e1]; omega)) ?_
    refine zW_s ?_
    refine ⟨?_, rfl, rfl⟩
    unfold pitV pitA
    rw [e0, e1, if_neg h1]
theorem pitS_k {t : Int → Int} {p s : Int} (h : pitS t p s = 1) : 2 ≤ s ∧ s ≤ 4 ∧ 97 ≤ t p ∧ t p ≤ 103 ∧ 48 ≤ t (p + s - 1) ∧ t (p + s - 1) ≤ 56 := by
  unfold pitS at h
  by_cases c : s < 2 ∨ 4 < s ∨ t p < 97 ∨ 103 < t p ∨ t (p + s - 1) < 48 ∨ 56 < t (p + s - 1)
  · rw [if_pos c] at h; omega
  · omega
theorem pitS_2 {t : Int → Int} {p s : Int} : pitS t p s = 0 ∨ pitS t p s = 1 := by
  unfold pitS
  split
  · exact Or.inl rfl
  · have : ∀ (f : Nat) (k : Int), pitL t p (t (p + 1)) f k s = 0 ∨ pitL t p (t (p + 1)) f k s = 1 := by
      intro f
      induction f with
      | zero => intro k; exact Or.inl rfl
      | succ f ih =>
        intro k
        unfold pitL
        split
        · exact Or.inr rfl
        · split
          · exact ih _
          · exact Or.inl rfl
    exact this _ _
theorem runK_c {t : Int → Int} {p s : Int} : runK t p s = if pitS t p s = 1 then 2 else if cnt bDig t p s.toNat = s ∧ s ≤ 4 then 3 else if cnt bLet t p s.toNat = s ∧ s ≤ 8 then 4 else 1 := by
  unfold runK
  by_cases h : pitS t p s = 1
  · have hk := pitS_k h
    rw [if_pos h, if_pos h, if_neg, if_neg]
    · rintro ⟨e, _⟩
      have := cnt_all (t := t) (p := p) bLet_b (m := s.toNat) (by first | decide | omega) (j := (s - 1).toNat) (by first | decide | omega)
      have := bLet_is this
      rw [show p + (((s - 1).toNat : Nat) : Int) = p + s - 1 by omega] at this
      omega
    · rintro ⟨e, _⟩
      have := cnt_all (t := t) (p := p) bDig_b (m := s.toNat) (by first | decide | omega) (j := 0) (by first | decide | omega)
      have := bDig_is this
      rw [show p + ((0 : Nat) : Int) = p by omega] at this
      omega
  · rw [if_neg h, if_neg h]
/-- what the class keeps of a run -/
def runV (t : Int → Int) (p q : Int) : Int := if runK t p (q - p) = 2 then 8 * pitV t p q + pitA t p (q - p) + 2 else if runK t p (q - p) = 3 then nmv t 10 48 p (q - p).toNat else if runK t p (q - p) = 4 then nmv t 256 0 p (q - p).toNat else 0
theorem C_kr {K : zK} {T p q : Int} {F : zF} {B : zB} (hK : 3002 ≤ K.1) (hK0 : 0 < K.2 0) (hK10 : 0 < K.2 10) (h2 : F 0 0 1 ≤ 3000) (hb : ∀ y, 0 ≤ B 0 0 0 y ∧ B 0 0 0 y < 256) (hT : 0 ≤ T ∧ T < 3001) (hp : 0 ≤ p) (hpq : p < q) (hq : q ≤ F 0 0 1) : ∀ {n : Nat} {k : Int}, p ≤ k → k ≤ q → q - k < n → zW (f_Tokens_keepRun_9 K n k (cnt bDig (B 0 0 0) p (k - p).toNat) (cnt bLet (B 0 0 0) p (k - p).toNat) 0 0 T p q F B) (fun r F' B' => F' = F ∧ frC [5, 7] T B B' ∧ B' 10 0 5 T = runK (B 0 0 0) p (q - p) ∧ B' 10 0 7 T = runV (B 0 0 0) p q) := by
  intro n
  induction n with
  | zero => intro k a b d; omega
  | succ n ih =>
    intro k a b d
    have cd := cnt_le (t := B 0 0 0) (p := p) bDig_b (m := (k - p).toNat)
    have cl := cnt_le (t := B 0 0 0) (p := p) bLet_b (m := (k - p).toNat)
    have hbk := hb k
    have e5 : (zup4 (zup4 B 10 0 5 T 1) 10 0 7 T 0) 0 0 0 = B 0 0 0 := frC_0 (frC_u (frC_u (ks := [5, 7]) frC_r (by decide)) (by decide))
    have ip := C_isPitch (K := K) (F := F) (B := zup4 (zup4 B 10 0 5 T 1) 10 0 7 T 0) (fr := p) (size := q - p) (by first | decide | omega) hK0 h2 (by rw [e5]; exact hb) hp (by first | decide | omega) (by first | decide | omega)
    have jn : ∀ x base zero, r32 base → r32 zero → f_Tokens_joined K 0 p (q - p) base zero F (zup4 (zup4 (zup4 B 10 0 5 T 1) 10 0 7 T 0) 10 0 5 T x) = some (nmv (B 0 0 0) base zero p (q - p).toNat, F, zup4 (zup4 (zup4 B 10 0 5 T 1) 10 0 7 T 0) 10 0 5 T x) := by
      intro x base zero r1 r2
      have e6 : (zup4 (zup4 (zup4 B 10 0 5 T 1) 10 0 7 T 0) 10 0 5 T x) 0 0 0 = B 0 0 0 := frC_0 (frC_u (frC_u (frC_u (ks := [5, 7]) frC_r (by decide)) (by decide)) (by decide))
      have := C_joi (K := K) (F := F) (B := zup4 (zup4 (zup4 B 10 0 5 T 1) 10 0 7 T 0) 10 0 5 T x) (fr := p) (base := base) (zero := zero) (size := q - p) hK hK0 h2 (by rw [e6]; exact hb) r1 r2 hp (by first | decide | omega) (by first | decide | omega)
      rw [e6] at this
      exact this
    have pv : pitS (B 0 0 0) p (q - p) = 1 → f_Tokens_pitchValue K 0 p (q - p) F (zup4 (zup4 (zup4 B 10 0 5 T 1) 10 0 7 T 0) 10 0 5 T 2) = some (8 * pitV (B 0 0 0) p q + pitA (B 0 0 0) p (q - p) + 2, F, zup4 (zup4 (zup4 B 10 0 5 T 1) 10 0 7 T 0) 10 0 5 T 2) := by
      intro h
      have hk := pitS_k h
      have e6 : (zup4 (zup4 (zup4 B 10 0 5 T 1) 10 0 7 T 0) 10 0 5 T 2) 0 0 0 = B 0 0 0 := frC_0 (frC_u (frC_u (frC_u (ks := [5, 7]) frC_r (by decide)) (by decide)) (by decide))
      have := C_pitV (K := K) (F := F) (B := zup4 (zup4 (zup4 B 10 0 5 T 1) 10 0 7 T 0) 10 0 5 T 2) (p := p) (q := q) hK0 h2 (by rw [e6]; exact hb) hp (by first | decide | omega) hq (by rw [e6]; omega)
      rw [e6] at this
      exact this
    rw [e5] at ip
    have p2 := pitS_2 (t := B 0 0 0) (p := p) (s := q - p)
    unfold f_Tokens_keepRun_9
    refine zW_g (by first | decide | omega) ?_
    refine zW_g (by first | decide | omega) ?_
    refine zW_i (fun h1 => ?_) (fun h1 => ?_)
    · obtain rfl : q = k := by omega
      refine zW_g (by first | decide | omega) ?_
      refine zW_g (by first | decide | omega) ?_
      refine zW_e (ip) ?_
      refine zW_g (by first | decide | omega) ?_
      refine zW_i (fun h2 => ?_) (fun h2 => ?_)
      · skip
        refine zW_g (by first | decide | omega) ?_
        refine zW_g (by first | decide | omega) ?_
        refine zW_i (fun h3 => ?_) (fun h3 => ?_)
        · skip
          refine zW_i (fun h4 => ?_) (fun h4 => ?_)
          · skip
            unfold f_Tokens_keepRun_159
            refine zW_g (by first | decide | omega) ?_
            refine zW_g (by first | decide | omega) ?_
            refine zW_i (fun h5 => ?_) (fun h5 => ?_)
            · skip
              refine zW_i (fun h6 => ?_) (fun h6 => ?_)
              · skip
                unfold f_Tokens_keepRun_197
                refine zW_s ?_
                have hk : runK (B 0 0 0) p (q - p) = 1 := by rw [runK_c, if_neg (by first | decide | omega), if_neg (by first | decide | omega), if_neg (by first | decide | omega)]
                refine ⟨rfl, frC_u (frC_u frC_r (by decide)) (by decide), ?_, ?_⟩
                · rw [hk]; simp [zup4_v]
                · unfold runV; rw [hk, if_neg (by decide), if_neg (by decide), if_neg (by decide)]; simp [zup4_v]
              · skip
                refine zW_g (by first | decide | omega) ?_
                refine zW_g (by first | decide | omega) ?_
                refine zW_e (jn _ _ _ (by decide) (by decide)) ?_
                unfold f_Tokens_keepRun_197
                refine zW_s ?_
                have hk : runK (B 0 0 0) p (q - p) = 4 := by rw [runK_c, if_neg (by first | decide | omega), if_neg (by first | decide | omega), if_pos ⟨(by first | decide | omega), (by first | decide | omega)⟩]
                refine ⟨rfl, frC_u (frC_u (frC_u (frC_u frC_r (by decide)) (by decide)) (by decide)) (by decide), ?_, ?_⟩
                · rw [hk]; simp [zup4_v]
                · unfold runV; rw [hk, if_neg (by decide), if_neg (by decide), if_pos rfl]; simp [zup4_v]
            · skip
              unfold f_Tokens_keepRun_197
              refine zW_s ?_
              have hk : runK (B 0 0 0) p (q - p) = 1 := by rw [runK_c, if_neg (by first | decide | omega), if_neg (by first | decide | omega), if_neg (by first | decide | omega)]
              refine ⟨rfl, frC_u (frC_u frC_r (by decide)) (by decide), ?_, ?_⟩
              · rw [hk]; simp [zup4_v]
              · unfold runV; rw [hk, if_neg (by decide), if_neg (by decide), if_neg (by decide)]; simp [zup4_v]
          · skip
            refine zW_e (jn _ _ _ (by decide) (by decide)) ?_
            unfold f_Tokens_keepRun_197
            refine zW_s ?_
            have hk : runK (B 0 0 0) p (q - p) = 3 := by rw [runK_c, if_neg (by first | decide | omega), if_pos ⟨(by first | decide | omega), (by first | decide | omega)⟩]
            refine ⟨rfl, frC_u (frC_u (frC_u (frC_u frC_r (by decide)) (by decide)) (by decide)) (by decide), ?_, ?_⟩
            · rw [hk]; simp [zup4_v]
            · unfold runV; rw [hk, if_neg (by decide), if_pos rfl]; simp [zup4_v]
        · skip
          unfold f_Tokens_keepRun_159
          refine zW_g (by first | decide | omega) ?_
          refine zW_g (by first | decide | omega) ?_
          refine zW_i (fun h7 => ?_) (fun h7 => ?_)
          · skip
            refine zW_i (fun h8 => ?_) (fun h8 => ?_)
            · skip
              unfold f_Tokens_keepRun_197
              refine zW_s ?_
              have hk : runK (B 0 0 0) p (q - p) = 1 := by rw [runK_c, if_neg (by first | decide | omega), if_neg (by first | decide | omega), if_neg (by first | decide | omega)]
              refine ⟨rfl, frC_u (frC_u frC_r (by decide)) (by decide), ?_, ?_⟩
              · rw [hk]; simp [zup4_v]
              · unfold runV; rw [hk, if_neg (by decide), if_neg (by decide), if_neg (by decide)]; simp [zup4_v]
            · skip
              refine zW_g (by first | decide | omega) ?_
              refine zW_g (by first | decide | omega) ?_
              refine zW_e (jn _ _ _ (by decide) (by decide)) ?_
              unfold f_Tokens_keepRun_197
              refine zW_s ?_
              have hk : runK (B 0 0 0) p (q - p) = 4 := by rw [runK_c, if_neg (by first | decide | omega), if_neg (by first | decide | omega), if_pos ⟨(by first | decide | omega), (by first | decide | omega)⟩]
              refine ⟨rfl, frC_u (frC_u (frC_u (frC_u frC_r (by decide)) (by decide)) (by decide)) (by decide), ?_, ?_⟩
              · rw [hk]; simp [zup4_v]
              · unfold runV; rw [hk, if_neg (by decide), if_neg (by decide), if_pos rfl]; simp [zup4_v]
          · skip
            unfold f_Tokens_keepRun_197
            refine zW_s ?_
            have hk : runK (B 0 0 0) p (q - p) = 1 := by rw [runK_c, if_neg (by first | decide | omega), if_neg (by first | decide | omega), if_neg (by first | decide | omega)]
            refine ⟨rfl, frC_u (frC_u frC_r (by decide)) (by decide), ?_, ?_⟩
            · rw [hk]; simp [zup4_v]
            · unfold runV; rw [hk, if_neg (by decide), if_neg (by decide), if_neg (by decide)]; simp [zup4_v]
      · skip
        refine zW_e (pv (by first | decide | omega)) ?_
        unfold f_Tokens_keepRun_197
        refine zW_s ?_
        have hk : runK (B 0 0 0) p (q - p) = 2 := by rw [runK_c, if_pos (by first | decide | omega)]
        refine ⟨rfl, frC_u (frC_u (frC_u (frC_u frC_r (by decide)) (by decide)) (by decide)) (by decide), ?_, ?_⟩
        · rw [hk]; simp [zup4_v]
        · unfold runV; rw [if_pos hk]; simp [zup4_v]
    · skip
      refine zW_g (by first | decide | omega) ?_
      refine zW_e (C_at0 hK0 (by first | decide | omega) (by first | decide | omega) h2) ?_
      refine zW_e (C_Let (by first | decide | omega)) ?_
      refine zW_g (by exact bLet_r _) ?_
      refine zW_i (fun h9 => ?_) (fun h9 => ?_)
      · skip
        unfold f_Tokens_keepRun_35
        refine zW_g (by first | decide | omega) ?_
        refine zW_e (C_at0 hK0 (by first | decide | omega) (by first | decide | omega) h2) ?_
        refine zW_e (C_Dig (by first | decide | omega)) ?_
        refine zW_g (by exact bDig_r _) ?_
        refine zW_i (fun h10 => ?_) (fun h10 => ?_)
        · skip
          unfold f_Tokens_keepRun_57
          have s1 : (k + 1 - p).toNat = (k - p).toNat + 1 := by omega
          have s2 : p + (((k - p).toNat : Nat) : Int) = k := by omega
          have ed : cnt bDig (B 0 0 0) p (k + 1 - p).toNat = cnt bDig (B 0 0 0) p (k - p).toNat + 0 := by
            rw [s1]; show cnt bDig (B 0 0 0) p (k - p).toNat + bDig (B 0 0 0 (p + ((k - p).toNat : Nat))) = _
            rw [s2, h10]
          have el : cnt bLet (B 0 0 0) p (k + 1 - p).toNat = cnt bLet (B 0 0 0) p (k - p).toNat + 0 := by
            rw [s1]; show cnt bLet (B 0 0 0) p (k - p).toNat + bLet (B 0 0 0 (p + ((k - p).toNat : Nat))) = _
            rw [s2, h9]
          have hi := ih (k := k + 1) (by first | decide | omega) (by first | decide | omega) (by first | decide | omega)
          rw [ed, el] at hi
          exact hi
        · skip
          unfold f_Tokens_keepRun_57
          have s1 : (k + 1 - p).toNat = (k - p).toNat + 1 := by omega
          have s2 : p + (((k - p).toNat : Nat) : Int) = k := by omega
          have ed : cnt bDig (B 0 0 0) p (k + 1 - p).toNat = cnt bDig (B 0 0 0) p (k - p).toNat + 1 := by
            rw [s1]; show cnt bDig (B 0 0 0) p (k - p).toNat + bDig (B 0 0 0 (p + ((k - p).toNat : Nat))) = _
            rw [s2, bDig_1 h10]
          have el : cnt bLet (B 0 0 0) p (k + 1 - p).toNat = cnt bLet (B 0 0 0) p (k - p).toNat + 0 := by
            rw [s1]; show cnt bLet (B 0 0 0) p (k - p).toNat + bLet (B 0 0 0 (p + ((k - p).toNat : Nat))) = _
            rw [s2, h9]
          have hi := ih (k := k + 1) (by first | decide | omega) (by first | decide | omega) (by first | decide | omega)
          rw [ed, el] at hi
          exact hi
      · skip
        unfold f_Tokens_keepRun_35
        refine zW_g (by first | decide | omega) ?_
        refine zW_e (C_at0 hK0 (by first | decide | omega) (by first | decide | omega) h2) ?_
        refine zW_e (C_Dig (by first | decide | omega)) ?_
        refine zW_g (by exact bDig_r _) ?_
        refine zW_i (fun h11 => ?_) (fun h11 => ?_)
        · skip
          unfold f_Tokens_keepRun_57
          have s1 : (k + 1 - p).toNat = (k - p).toNat + 1 := by omega
          have s2 : p + (((k - p).toNat : Nat) : Int) = k := by omega
          have ed : cnt bDig (B 0 0 0) p (k + 1 - p).toNat = cnt bDig (B 0 0 0) p (k - p).toNat + 0 := by
            rw [s1]; show cnt bDig (B 0 0 0) p (k - p).toNat + bDig (B 0 0 0 (p + ((k - p).toNat : Nat))) = _
            rw [s2, h11]
          have el : cnt bLet (B 0 0 0) p (k + 1 - p).toNat = cnt bLet (B 0 0 0) p (k - p).toNat + 1 := by
            rw [s1]; show cnt bLet (B 0 0 0) p (k - p).toNat + bLet (B 0 0 0 (p + ((k - p).toNat : Nat))) = _
            rw [s2, bLet_1 h9]
          have hi := ih (k := k + 1) (by first | decide | omega) (by first | decide | omega) (by first | decide | omega)
          rw [ed, el] at hi
          exact hi
        · skip
          unfold f_Tokens_keepRun_57
          have s1 : (k + 1 - p).toNat = (k - p).toNat + 1 := by omega
          have s2 : p + (((k - p).toNat : Nat) : Int) = k := by omega
          have ed : cnt bDig (B 0 0 0) p (k + 1 - p).toNat = cnt bDig (B 0 0 0) p (k - p).toNat + 1 := by
            rw [s1]; show cnt bDig (B 0 0 0) p (k - p).toNat + bDig (B 0 0 0 (p + ((k - p).toNat : Nat))) = _
            rw [s2, bDig_1 h11]
          have el : cnt bLet (B 0 0 0) p (k + 1 - p).toNat = cnt bLet (B 0 0 0) p (k - p).toNat + 1 := by
            rw [s1]; show cnt bLet (B 0 0 0) p (k - p).toNat + bLet (B 0 0 0 (p + ((k - p).toNat : Nat))) = _
            rw [s2, bLet_1 h9]
          have hi := ih (k := k + 1) (by first | decide | omega) (by first | decide | omega) (by first | decide | omega)
          rw [ed, el] at hi
          exact hi
theorem C_keepRun {K : zK} {T p q : Int} {F : zF} {B : zB} (hK : 3002 ≤ K.1) (hK0 : 0 < K.2 0) (hK10 : 0 < K.2 10) (h2 : F 0 0 1 ≤ 3000) (hb : ∀ y, 0 ≤ B 0 0 0 y ∧ B 0 0 0 y < 256) (hT : 0 ≤ T ∧ T < 3001) (hp : 0 ≤ p) (hpq : p < q) (hq : q ≤ F 0 0 1) : zW (f_Tokens_keepRun K 0 0 T p q F B) (fun r F' B' => F' = F ∧ frC [5, 7] T B B' ∧ B' 10 0 5 T = runK (B 0 0 0) p (q - p) ∧ B' 10 0 7 T = runV (B 0 0 0) p q) := by
  have h := C_kr hK hK0 hK10 h2 hb hT hp hpq hq (n := K.1) (k := p) (by first | decide | omega) (by first | decide | omega) (by first | decide | omega)
  rw [show (p - p).toNat = 0 by omega] at h
  exact h
end
