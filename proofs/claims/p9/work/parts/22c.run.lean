section
/-! ===== a run of bytes becomes a token, on the reference's side ===== -/
theorem zup4_v {B : zB} {c k c' k' : Nat} {i j v i' j' : Int} : zup4 B c i k j v c' i' k' j' = if c' = c ∧ i' = i ∧ k' = k ∧ j' = j then v else B c' i' k' j' := by
  by_cases h : c' = c ∧ i' = i ∧ k' = k
  · obtain ⟨rfl, rfl, rfl⟩ := h
    rw [zup4_self]
    unfold zup
    by_cases g : j' = j
    · rw [if_pos g, if_pos ⟨rfl, rfl, rfl, g⟩]
    · rw [if_neg g, if_neg (fun z => g z.2.2.2)]
  · rw [zup4_ne h, if_neg (fun z => h ⟨z.1, z.2.1, z.2.2.1⟩)]
theorem zup3_v {F : zF} {c k c' k' : Nat} {i v i' : Int} : zup3 F c i k v c' i' k' = if c' = c ∧ i' = i ∧ k' = k then v else F c' i' k' := rfl
theorem tmB_up {B : zB} {k : Nat} {j v : Int} (h : k ≠ 2) : tmB (zup4 B 14 0 k j v) = tmB B := by
  funext y
  unfold tmB
  rw [zup4_ne (fun z => h z.2.2.symm)]
/-- nothing but the rows ks of the reference changes, and these at T alone -/
def frT (ks : List Nat) (T : Int) (B B' : zB) : Prop := ∀ c i k j, ¬ (c = 14 ∧ i = 0 ∧ k ∈ ks ∧ j = T) → B' c i k j = B c i k j
theorem frT_r {ks : List Nat} {T : Int} {B : zB} : frT ks T B B := fun _ _ _ _ _ => rfl
theorem frT_u {ks : List Nat} {k : Nat} {T v : Int} {B B' : zB} (h : frT ks T B B') (hk : k ∈ ks) : frT ks T B (zup4 B' 14 0 k T v) := by
  intro c i x j hn
  rw [zup4_v, if_neg (fun z => hn ⟨z.1, z.2.1, by rw [z.2.2.1]; exact hk, z.2.2.2⟩)]
  exact h c i x j hn
theorem frT_t {ks : List Nat} {T : Int} {B B' B'' : zB} (h : frT ks T B B') (h' : frT ks T B' B'') : frT ks T B B'' := fun c i k j hn => by rw [h' c i k j hn, h c i k j hn]
theorem frT_m {ks ls : List Nat} {T : Int} {B B' : zB} (h : frT ks T B B') (hk : ∀ k ∈ ks, k ∈ ls) : frT ls T B B' := fun c i k j hn => h c i k j (fun z => hn ⟨z.1, z.2.1, hk k z.2.2.1, z.2.2.2⟩)
theorem L_num {K : Nat} {p q : Int} {F : zF} {t : Int → Int} (hT : 0 ≤ F 14 0 12 ∧ F 14 0 12 < 3001) (hp : 0 ≤ p) (hq : q ≤ 3000) : ∀ {n : Nat} {k : Int} {B : zB}, p ≤ k → k ≤ q → q - k < n → tmB B = t → B 14 0 9 (F 14 0 12) = nmv t 10 48 p (k - p).toNat → zW (f_M_cutRun_124 K n k q F B) (fun r F' B' => r = q ∧ F' = F ∧ frT [9] (F 14 0 12) B B' ∧ B' 14 0 9 (F 14 0 12) = nmv t 10 48 p (q - p).toNat) := by
  intro n
  induction n with
  | zero => intro k B a b d _ _; omega
  | succ n ih =>
    intro k B a b d ht hv
    unfold f_M_cutRun_124
    refine zW_g (by first | decide | omega) ?_
    refine zW_g (by first | decide | omega) ?_
    refine zW_i (fun h1 => ?_) (fun h1 => ?_)
    · skip
      unfold f_M_cutRun_213
      refine zW_s ?_
      refine ⟨rfl, rfl, frT_r, ?_⟩
      rw [hv, show k = q by omega]
    · skip
      refine zW_g (by first | decide | omega) ?_
      refine zW_e (L_byteA (by first | decide | omega) (by first | decide | omega)) ?_
      refine zW_m (ih (by first | decide | omega) (by first | decide | omega) (by first | decide | omega) ((tmB_up (by decide)).trans ht) ?_) (fun r F' B' hh => ?_)
      · rw [zup4_v, if_pos ⟨rfl, rfl, rfl, rfl⟩, show (k + 1 - p).toNat = (k - p).toNat + 1 by omega]
        unfold nmv
        rw [hv, ht, show p + (((k - p).toNat : Nat) : Int) = k by omega]
        omega
      · obtain ⟨h1, h2, h3, h4⟩ := hh
        exact ⟨h1, h2, frT_t (frT_u frT_r (by decide)) h3, h4⟩
/-- the kind of a run -/
def runK (t : Int → Int) (p s : Int) : Int := if cnt bDig t p s.toNat = s ∧ s ≤ 4 then 3 else if cnt bLet t p s.toNat = s ∧ s ≤ 8 then 4 else if pitS t p s = 1 then 2 else 1
def pitV (t : Int → Int) (p q : Int) : Int := 7 * (t (q - 1) - 48) + (t p - 99) % 7
def pitA (t : Int → Int) (p s : Int) : Int := if t (p + 1) = 35 then s - 2 else 2 - s
def tokR (t : Int → Int) (p q : Int) (T : Int) (B' : zB) : Prop := B' 14 0 7 T = runK t p (q - p) ∧ (runK t p (q - p) = 3 → B' 14 0 9 T = nmv t 10 48 p (q - p).toNat) ∧ (runK t p (q - p) = 4 → B' 14 0 11 T = wrd t p (q - p).toNat) ∧ (runK t p (q - p) = 2 → B' 14 0 9 T = pitV t p q ∧ B' 14 0 10 T = pitA t p (q - p))
theorem L_cr77 {K : Nat} {p q : Int} {F : zF} {B : zB} {t : Int → Int} (hK : 3002 ≤ K) (hT : 0 ≤ F 14 0 12 ∧ F 14 0 12 < 3001) (hp : 0 ≤ p) (hpq : p < q) (hq : q ≤ 3000) (ht : tmB B = t) : zW (f_M_cutRun_77 K (wrd t p (q - p).toNat) (cnt bDig t p (q - p).toNat) (cnt bLet t p (q - p).toNat) q p F B) (fun r F' B' => r = q ∧ F' = F ∧ frT [7, 9, 10, 11] (F 14 0 12) B B' ∧ tokR t p q (F 14 0 12) B') := by
  have cd := cnt_le (t := t) (p := p) bDig_b (m := (q - p).toNat)
  have cl := cnt_le (t := t) (p := p) bLet_b (m := (q - p).toNat)
  have up1 : tmB (zup4 B 14 0 7 (F 14 0 12) 1) = t := (tmB_up (by decide)).trans ht
  unfold f_M_cutRun_77
  refine zW_g (by first | decide | omega) ?_
  refine zW_g (by first | decide | omega) ?_
  refine zW_g (by first | decide | omega) ?_
  refine zW_i (fun h1 => ?_) (fun h1 => ?_)
  · skip
    refine zW_i (fun h2 => ?_) (fun h2 => ?_)
    · skip
      unfold f_M_cutRun_170
      refine zW_g (by first | decide | omega) ?_
      refine zW_g (by first | decide | omega) ?_
      refine zW_i (fun h3 => ?_) (fun h3 => ?_)
      · skip
        refine zW_i (fun h4 => ?_) (fun h4 => ?_)
        · skip
          unfold f_M_cutRun_207
          refine zW_b (L_cutPitch hK hT hp hpq hq) (fun r40 F40 B40 hh => ?_)
          obtain ⟨rfl, hB⟩ := hh
          unfold f_M_cutRun_213
          refine zW_s ?_
          rw [up1] at hB
          have hk : runK t p (q - p) = if pitS t p (q - p) = 1 then 2 else 1 := by unfold runK; rw [if_neg (by first | decide | omega), if_neg (by first | decide | omega)]
          by_cases hc : pitS t p (q - p) = 1
          · rw [if_pos hc] at hB hk
            subst hB
            refine ⟨rfl, rfl, frT_u (frT_u (frT_u (frT_u frT_r (by decide)) (by decide)) (by decide)) (by decide), ?_, fun z => ?_, fun z => ?_, fun _ => ⟨?_, ?_⟩⟩
            · rw [hk]; simp [zup4_v, keepP]
            · omega
            · omega
            · simp [zup4_v, keepP, pitV]
            · simp [zup4_v, keepP, pitA]
          · rw [if_neg hc] at hB hk
            subst hB
            refine ⟨rfl, rfl, frT_u frT_r (by decide), ?_, fun z => ?_, fun z => ?_, fun z => ?_⟩
            · rw [hk]; simp [zup4_v]
            · omega
            · omega
            · omega
        · skip
          refine zW_g (by first | decide | omega) ?_
          unfold f_M_cutRun_213
          refine zW_s ?_
          have hk : runK t p (q - p) = 4 := by unfold runK; rw [if_neg (by first | decide | omega), if_pos ⟨(by first | decide | omega), (by first | decide | omega)⟩]
          refine ⟨rfl, rfl, frT_u (frT_u (frT_u frT_r (by decide)) (by decide)) (by decide), ?_, fun z => ?_, fun _ => ?_, fun z => ?_⟩
          · rw [hk]; simp [zup4_v]
          · omega
          · simp [zup4_v]
          · omega
      · skip
        unfold f_M_cutRun_207
        refine zW_b (L_cutPitch hK hT hp hpq hq) (fun r40 F40 B40 hh => ?_)
        obtain ⟨rfl, hB⟩ := hh
        unfold f_M_cutRun_213
        refine zW_s ?_
        rw [up1] at hB
        have hk : runK t p (q - p) = if pitS t p (q - p) = 1 then 2 else 1 := by unfold runK; rw [if_neg (by first | decide | omega), if_neg (by first | decide | omega)]
        by_cases hc : pitS t p (q - p) = 1
        · rw [if_pos hc] at hB hk
          subst hB
          refine ⟨rfl, rfl, frT_u (frT_u (frT_u (frT_u frT_r (by decide)) (by decide)) (by decide)) (by decide), ?_, fun z => ?_, fun z => ?_, fun _ => ⟨?_, ?_⟩⟩
          · rw [hk]; simp [zup4_v, keepP]
          · omega
          · omega
          · simp [zup4_v, keepP, pitV]
          · simp [zup4_v, keepP, pitA]
        · rw [if_neg hc] at hB hk
          subst hB
          refine ⟨rfl, rfl, frT_u frT_r (by decide), ?_, fun z => ?_, fun z => ?_, fun z => ?_⟩
          · rw [hk]; simp [zup4_v]
          · omega
          · omega
          · omega
    · skip
      refine zW_m (L_num (p := p) hT hp hq (by first | decide | omega) (by first | decide | omega) (by first | decide | omega) ((tmB_up (by decide)).trans ((tmB_up (by decide)).trans up1)) ?_) (fun r F' B' hh => ?_)
      · rw [zup4_v, if_pos ⟨rfl, rfl, rfl, rfl⟩, show (p - p).toNat = 0 by omega]; rfl
      · obtain ⟨g1, g2, g3, g4⟩ := hh
        have hk : runK t p (q - p) = 3 := by unfold runK; rw [if_pos ⟨(by first | decide | omega), (by first | decide | omega)⟩]
        refine ⟨g1, g2, frT_t (frT_u (frT_u (frT_u frT_r (by decide)) (by decide)) (by decide)) (frT_m g3 (by decide)), ?_, fun _ => g4, fun z => ?_, fun z => ?_⟩
        · rw [g3 14 0 7 _ (by simp), hk]
          simp [zup4_v]
        · omega
        · omega
  · skip
    unfold f_M_cutRun_170
    refine zW_g (by first | decide | omega) ?_
    refine zW_g (by first | decide | omega) ?_
    refine zW_i (fun h5 => ?_) (fun h5 => ?_)
    · skip
      refine zW_i (fun h6 => ?_) (fun h6 => ?_)
      · skip
        unfold f_M_cutRun_207
        refine zW_b (L_cutPitch hK hT hp hpq hq) (fun r40 F40 B40 hh => ?_)
        obtain ⟨rfl, hB⟩ := hh
        unfold f_M_cutRun_213
        refine zW_s ?_
        rw [up1] at hB
        have hk : runK t p (q - p) = if pitS t p (q - p) = 1 then 2 else 1 := by unfold runK; rw [if_neg (by first | decide | omega), if_neg (by first | decide | omega)]
        by_cases hc : pitS t p (q - p) = 1
        · rw [if_pos hc] at hB hk
          subst hB
          refine ⟨rfl, rfl, frT_u (frT_u (frT_u (frT_u frT_r (by decide)) (by decide)) (by decide)) (by decide), ?_, fun z => ?_, fun z => ?_, fun _ => ⟨?_, ?_⟩⟩
          · rw [hk]; simp [zup4_v, keepP]
          · omega
          · omega
          · simp [zup4_v, keepP, pitV]
          · simp [zup4_v, keepP, pitA]
        · rw [if_neg hc] at hB hk
          subst hB
          refine ⟨rfl, rfl, frT_u frT_r (by decide), ?_, fun z => ?_, fun z => ?_, fun z => ?_⟩
          · rw [hk]; simp [zup4_v]
          · omega
          · omega
          · omega
      · skip
        refine zW_g (by first | decide | omega) ?_
        unfold f_M_cutRun_213
        refine zW_s ?_
        have hk : runK t p (q - p) = 4 := by unfold runK; rw [if_neg (by first | decide | omega), if_pos ⟨(by first | decide | omega), (by first | decide | omega)⟩]
        refine ⟨rfl, rfl, frT_u (frT_u (frT_u frT_r (by decide)) (by decide)) (by decide), ?_, fun z => ?_, fun _ => ?_, fun z => ?_⟩
        · rw [hk]; simp [zup4_v]
        · omega
        · simp [zup4_v]
        · omega
    · skip
      unfold f_M_cutRun_207
      refine zW_b (L_cutPitch hK hT hp hpq hq) (fun r40 F40 B40 hh => ?_)
      obtain ⟨rfl, hB⟩ := hh
      unfold f_M_cutRun_213
      refine zW_s ?_
      rw [up1] at hB
      have hk : runK t p (q - p) = if pitS t p (q - p) = 1 then 2 else 1 := by unfold runK; rw [if_neg (by first | decide | omega), if_neg (by first | decide | omega)]
      by_cases hc : pitS t p (q - p) = 1
      · rw [if_pos hc] at hB hk
        subst hB
        refine ⟨rfl, rfl, frT_u (frT_u (frT_u (frT_u frT_r (by decide)) (by decide)) (by decide)) (by decide), ?_, fun z => ?_, fun z => ?_, fun _ => ⟨?_, ?_⟩⟩
        · rw [hk]; simp [zup4_v, keepP]
        · omega
        · omega
        · simp [zup4_v, keepP, pitV]
        · simp [zup4_v, keepP, pitA]
      · rw [if_neg hc] at hB hk
        subst hB
        refine ⟨rfl, rfl, frT_u frT_r (by decide), ?_, fun z => ?_, fun z => ?_, fun z => ?_⟩
        · rw [hk]; simp [zup4_v]
        · omega
        · omega
        · omega
theorem runE_run {t : Int → Int} {n p : Int} {f : Nat} (h : ¬ n ≤ p) (hb : ¬ bRun (t p) = 0) (hf : n - p < f) : p < runE t n f p ∧ runE t n f p ≤ n := by
  obtain ⟨f, rfl⟩ : ∃ g, f = g + 1 := ⟨f - 1, (by first | decide | omega)⟩
  unfold runE
  rw [if_neg h, if_neg hb]
  have := runE_le (t := t) (f := f) (p := p + 1) (n := n) (by first | decide | omega)
  omega
/-- the run at p, ended by the tape's end or by another byte -/
def runQ (t : Int → Int) (n p : Int) : Int := runE t n 3002 p
theorem L_cutRun {K : Nat} {p : Int} {F : zF} {B : zB} {t : Int → Int} (hK : 3002 ≤ K) (hT : 0 ≤ F 14 0 12 ∧ F 14 0 12 < 3001) (h0 : 0 ≤ F 14 0 3) (h1 : F 14 0 3 ≤ 3000) (hp : 0 ≤ p) (hpn : p < F 14 0 3) (ht : tmB B = t) (hb : ¬ bRun (t p) = 0) : zW (f_M_cutRun K p F B) (fun r F' B' => r = runQ t (F 14 0 3) p ∧ F' = F ∧ frT [7, 9, 10, 11] (F 14 0 12) B B' ∧ tokR t p (runQ t (F 14 0 3) p) (F 14 0 12) B') := by
  have hE : runE t (F 14 0 3) K p = runQ t (F 14 0 3) p := runE_f (by first | decide | omega) (by first | decide | omega)
  have hR := runE_run (t := t) (n := F 14 0 3) (p := p) (f := 3002) (by first | decide | omega) hb (by first | decide | omega)
  have hS := runS_all (t := t) (n := F 14 0 3) (p0 := p) (f := K) (m := 0)
  rw [show p + ((0 : Nat) : Int) = p by omega, hE] at hS
  have hS' : runS t (F 14 0 3) K 0 0 0 p = (wrd t p (runQ t (F 14 0 3) p - p).toNat, cnt bDig t p (runQ t (F 14 0 3) p - p).toNat, cnt bLet t p (runQ t (F 14 0 3) p - p).toNat, runQ t (F 14 0 3) p) := hS
  unfold f_M_cutRun
  rw [L_run h0 h1 hp (by first | decide | omega) (by first | decide | omega), show (fun y => B 14 0 2 y % 256) = t from ht, hS']
  exact L_cr77 hK hT hp hR.1 (by unfold runQ; omega) ht
end
section
section
/-! ===== a run of bytes becomes a token, on the class's side ===== -/
def frC (ks : List Nat) (T : Int) (B B' : zB) : Prop := ∀ c i k j, ¬ (c = 10 ∧ i = 0 ∧ k ∈ ks ∧ j = T) → B' c i k j = B c i k j
theorem frC_r {ks : List Nat} {T : Int} {B : zB} : frC ks T B B := fun _ _ _ _ _ => rfl
theorem frC_u {ks : List Nat} {k : Nat} {T v : Int} {B B' : zB} (h : frC ks T B B') (hk : k ∈ ks) : frC ks T B (zup4 B' 10 0 k T v) := by
  intro c i x j hn
  rw [zup4_v, if_neg (fun z => hn ⟨z.1, z.2.1, by rw [z.2.2.1]; exact hk, z.2.2.2⟩)]
  exact h c i x j hn
theorem frC_t {ks : List Nat} {T : Int} {B B' B'' : zB} (h : frC ks T B B') (h' : frC ks T B' B'') : frC ks T B B'' := fun c i k j hn => by rw [h' c i k j hn, h c i k j hn]
theorem frC_0 {ks : List Nat} {T : Int} {B B' : zB} (h : frC ks T B B') : B' 0 0 0 = B 0 0 0 := by
  funext y; exact h 0 0 0 y (by simp)
theorem C_joi {K : zK} {F : zF} {B : zB} {fr base zero size : Int} (hK : 3002 ≤ K.1) (hK0 : 0 < K.2 0) (h2 : F 0 0 1 ≤ 3000) (hb : ∀ y, 0 ≤ B 0 0 0 y ∧ B 0 0 0 y < 256) (hr1 : r32 base) (hr2 : r32 zero) (hf : 0 ≤ fr) (hs : 0 ≤ size) (he : fr + size ≤ F 0 0 1) : f_Tokens_joined K 0 fr size base zero F B = some (nmv (B 0 0 0) base zero fr size.toNat, F, B) := by
  unfold f_Tokens_joined
  rw [C_joined hK0 h2 hb hr1 hr2 hf hs he (by first | decide | omega) (by first | decide | omega) (by first | decide | omega)]
  have := joinS_e (t := B 0 0 0) (fr := fr) (base := base) (zero := zero) (size := size) (f := K.1) (m := 0) (by first | decide | omega) (by first | decide | omega)
  rw [show joinS (B 0 0 0) fr base zero K.1 0 0 size = nmv (B 0 0 0) base zero fr size.toNat from this]
theorem C_pitV {K : zK} {F : zF} {B : zB} {p q : Int} (hK0 : 0 < K.2 0) (h2 : F 0 0 1 ≤ 3000) (hb : ∀ y, 0 ≤ B 0 0 0 y ∧ B 0 0 0 y < 256) (hp : 0 ≤ p) (hpq : p + 2 ≤ q) (hq : q ≤ F 0 0 1) (h97 : 97 ≤ B 0 0 0 p) : f_Tokens_pitchValue K 0 p (q - p) F B = some (8 * pitV (B 0 0 0) p q + pitA (B 0 0 0) p (q - p) + 2, F, B) := by
  have b1 := hb p
  have b2 := hb (q - 1)
  have b3 := hb (p + 1)
  have e0 : p + (q - p) - 1 = q - 1 := by omega
  have e1 : zrm (B 0 0 0 p - 97 + 5) 7 = (B 0 0 0 p - 99) % 7 := by
    rw [zrm_e (by first | decide | omega) (by first | decide | omega) (by decide) (by decide)]; omega
  refine zW_ex ?_
  unfold f_Tokens_pitchValue
  refine zW_g (by first | omega | (rw [e0, e1]; omega)) ?_
  refine zW_e (C_at0 hK0 (by first | decide | omega) (by first | decide | omega) h2) ?_
  refine zW_e (C_at0 hK0 (by first | decide | omega) (by first | decide | omega) h2) ?_
  refine zW_e (C_at0 hK0 (by first | decide | omega) (by first | decide | omega) h2) ?_
  refine zW_g (by first | omega | (rw [e0, e1]; omega)) ?_
  refine zW_i (fun h1 => ?_) (fun h1 => ?_)
  · skip
    unfold f_Tokens_pitchValue_54
    refine zW_g (by first | omega | (rw [e0, e1]; omega)) ?_
    refine zW_s ?_
    refine ⟨?_, rfl, rfl⟩
    unfold pitV pitA
    rw [e0, e1, if_pos h1]
  · skip
    unfold f_Tokens_pitchValue_54
    refine zW_g (by first | omega | (rw [e0, e1]; omega)) ?_
    refine zW_s ?_
    refine ⟨?_, rfl, rfl⟩
    unfold pitV pitA
    rw [e0, e1, if_neg h1]
theorem pitS_k {t : Int → Int} {p s : Int} (h : pitS t p s = 1) : 2 ≤ s ∧ s ≤ 4 ∧ 97 ≤ t p ∧ t p ≤ 103 ∧ 48 ≤ t (p + s - 1) ∧ t (p + s - 1) ≤ 56 := by
  unfold pitS at h
  by_cases c : s < 2 ∨ 4 < s ∨ t p < 97 ∨ 103 < t p ∨ t (p + s - 1) < 48 ∨ 56 < t (p + s - 1)
  · rw [if_pos c] at h; omega
  · omega
theorem pitS_2 {t : Int → Int} {p s : Int} : pitS t p s = 0 ∨ pitS t p s = 1 := by
  unfold pitS
  split
  · exact Or.inl rfl
  · have : ∀ (f : Nat) (k : Int), pitL t p (t (p + 1)) f k s = 0 ∨ pitL t p (t (p + 1)) f k s = 1 := by
      intro f
      induction f with
      | zero => intro k; exact Or.inl rfl
      | succ f ih =>
        intro k
        unfold pitL
        split
        · exact Or.inr rfl
        · split
          · exact ih _
          · exact Or.inl rfl
    exact this _ _
theorem runK_c {t : Int → Int} {p s : Int} : runK t p s = if pitS t p s = 1 then 2 else if cnt bDig t p s.toNat = s ∧ s ≤ 4 then 3 else if cnt bLet t p s.toNat = s ∧ s ≤ 8 then 4 else 1 := by
  unfold runK
  by_cases h : pitS t p s = 1
  · have hk := pitS_k h
    rw [if_pos h, if_pos h, if_neg, if_neg]
    · rintro ⟨e, _⟩
      have := cnt_all (t := t) (p := p) bLet_b (m := s.toNat) (by first | decide | omega) (j := (s - 1).toNat) (by first | decide | omega)
      have := bLet_is this
      rw [show p + (((s - 1).toNat : Nat) : Int) = p + s - 1 by omega] at this
      omega
    · rintro ⟨e, _⟩
      have := cnt_all (t := t) (p := p) bDig_b (m := s.toNat) (by first | decide | omega) (j := 0) (by first | decide | omega)
      have := bDig_is this
      rw [show p + ((0 : Nat) : Int) = p by omega] at this
      omega
  · rw [if_neg h, if_neg h]
/-- what the class keeps of a run -/
def runV (t : Int → Int) (p q : Int) : Int := if runK t p (q - p) = 2 then 8 * pitV t p q + pitA t p (q - p) + 2 else if runK t p (q - p) = 3 then nmv t 10 48 p (q - p).toNat else if runK t p (q - p) = 4 then nmv t 256 0 p (q - p).toNat else 0
theorem C_kr {K : zK} {T p q : Int} {F : zF} {B : zB} (hK : 3002 ≤ K.1) (hK0 : 0 < K.2 0) (hK10 : 0 < K.2 10) (h2 : F 0 0 1 ≤ 3000) (hb : ∀ y, 0 ≤ B 0 0 0 y ∧ B 0 0 0 y < 256) (hT : 0 ≤ T ∧ T < 3001) (hp : 0 ≤ p) (hpq : p < q) (hq : q ≤ F 0 0 1) : ∀ {n : Nat} {k : Int}, p ≤ k → k ≤ q → q - k < n → zW (f_Tokens_keepRun_9 K n k (cnt bDig (B 0 0 0) p (k - p).toNat) (cnt bLet (B 0 0 0) p (k - p).toNat) 0 0 T p q F B) (fun r F' B' => F' = F ∧ frC [5, 7] T B B' ∧ B' 10 0 5 T = runK (B 0 0 0) p (q - p) ∧ B' 10 0 7 T = runV (B 0 0 0) p q) := by
  intro n
  induction n with
  | zero => intro k a b d; omega
  | succ n ih =>
    intro k a b d
    have cd := cnt_le (t := B 0 0 0) (p := p) bDig_b (m := (k - p).toNat)
    have cl := cnt_le (t := B 0 0 0) (p := p) bLet_b (m := (k - p).toNat)
    have hbk := hb k
    have e5 : (zup4 (zup4 B 10 0 5 T 1) 10 0 7 T 0) 0 0 0 = B 0 0 0 := frC_0 (frC_u (frC_u (ks := [5, 7]) frC_r (by decide)) (by decide))
    have ip := C_isPitch (K := K) (F := F) (B := zup4 (zup4 B 10 0 5 T 1) 10 0 7 T 0) (fr := p) (size := q - p) (by first | decide | omega) hK0 h2 (by rw [e5]; exact hb) hp (by first | decide | omega) (by first | decide | omega)
    have jn : ∀ x base zero, r32 base → r32 zero → f_Tokens_joined K 0 p (q - p) base zero F (zup4 (zup4 (zup4 B 10 0 5 T 1) 10 0 7 T 0) 10 0 5 T x) = some (nmv (B 0 0 0) base zero p (q - p).toNat, F, zup4 (zup4 (zup4 B 10 0 5 T 1) 10 0 7 T 0) 10 0 5 T x) := by
      intro x base zero r1 r2
      have e6 : (zup4 (zup4 (zup4 B 10 0 5 T 1) 10 0 7 T 0) 10 0 5 T x) 0 0 0 = B 0 0 0 := frC_0 (frC_u (frC_u (frC_u (ks := [5, 7]) frC_r (by decide)) (by decide)) (by decide))
      have := C_joi (K := K) (F := F) (B := zup4 (zup4 (zup4 B 10 0 5 T 1) 10 0 7 T 0) 10 0 5 T x) (fr := p) (base := base) (zero := zero) (size := q - p) hK hK0 h2 (by rw [e6]; exact hb) r1 r2 hp (by first | decide | omega) (by first | decide | omega)
      rw [e6] at this
      exact this
    have pv : pitS (B 0 0 0) p (q - p) = 1 → f_Tokens_pitchValue K 0 p (q - p) F (zup4 (zup4 (zup4 B 10 0 5 T 1) 10 0 7 T 0) 10 0 5 T 2) = some (8 * pitV (B 0 0 0) p q + pitA (B 0 0 0) p (q - p) + 2, F, zup4 (zup4 (zup4 B 10 0 5 T 1) 10 0 7 T 0) 10 0 5 T 2) := by
      intro h
      have hk := pitS_k h
      have e6 : (zup4 (zup4 (zup4 B 10 0 5 T 1) 10 0 7 T 0) 10 0 5 T 2) 0 0 0 = B 0 0 0 := frC_0 (frC_u (frC_u (frC_u (ks := [5, 7]) frC_r (by decide)) (by decide)) (by decide))
      have := C_pitV (K := K) (F := F) (B := zup4 (zup4 (zup4 B 10 0 5 T 1) 10 0 7 T 0) 10 0 5 T 2) (p := p) (q := q) hK0 h2 (by rw [e6]; exact hb) hp (by first | decide | omega) hq (by rw [e6]; omega)
      rw [e6] at this
      exact this
    rw [e5] at ip
    have p2 := pitS_2 (t := B 0 0 0) (p := p) (s := q - p)
    unfold f_Tokens_keepRun_9
    refine zW_g (by first | decide | omega) ?_
    refine zW_g (by first | decide | omega) ?_
    refine zW_i (fun h1 => ?_) (fun h1 => ?_)
    · obtain rfl : q = k := by omega
      refine zW_g (by first | decide | omega) ?_
      refine zW_g (by first | decide | omega) ?_
      refine zW_e (ip) ?_
      refine zW_g (by first | decide | omega) ?_
      refine zW_i (fun h2 => ?_) (fun h2 => ?_)
      · skip
        refine zW_g (by first | decide | omega) ?_
        refine zW_g (by first | decide | omega) ?_
        refine zW_i (fun h3 => ?_) (fun h3 => ?_)
        · skip
          refine zW_i (fun h4 => ?_) (fun h4 => ?_)
          · skip
            unfold f_Tokens_keepRun_159
            refine zW_g (by first | decide | omega) ?_
            refine zW_g (by first | decide | omega) ?_
            refine zW_i (fun h5 => ?_) (fun h5 => ?_)
            · skip
              refine zW_i (fun h6 => ?_) (fun h6 => ?_)
              · skip
                unfold f_Tokens_keepRun_197
                refine zW_s ?_
                have hk : runK (B 0 0 0) p (q - p) = 1 := by rw [runK_c, if_neg (by first | decide | omega), if_neg (by first | decide | omega), if_neg (by first | decide | omega)]
                refine ⟨rfl, frC_u (frC_u frC_r (by decide)) (by decide), ?_, ?_⟩
                · rw [hk]; simp [zup4_v]
                · unfold runV; rw [hk, if_neg (by decide), if_neg (by decide), if_neg (by decide)]; simp [zup4_v]
              · skip
                refine zW_g (by first | decide | omega) ?_
                refine zW_g (by first | decide | omega) ?_
                refine zW_e (jn _ _ _ (by decide) (by decide)) ?_
                unfold f_Tokens_keepRun_197
                refine zW_s ?_
                have hk : runK (B 0 0 0) p (q - p) = 4 := by rw [runK_c, if_neg (by first | decide | omega), if_neg (by first | decide | omega), if_pos ⟨(by first | decide | omega), (by first | decide | omega)⟩]
                refine ⟨rfl, frC_u (frC_u (frC_u (frC_u frC_r (by decide)) (by decide)) (by decide)) (by decide), ?_, ?_⟩
                · rw [hk]; simp [zup4_v]
                · unfold runV; rw [hk, if_neg (by decide), if_neg (by decide), if_pos rfl]; simp [zup4_v]
            · skip
              unfold f_Tokens_keepRun_197
              refine zW_s ?_
              have hk : runK (B 0 0 0) p (q - p) = 1 := by rw [runK_c, if_neg (by first | decide | omega), if_neg (by first | decide | omega), if_neg (by first | decide | omega)]
              refine ⟨rfl, frC_u (frC_u frC_r (by decide)) (by decide), ?_, ?_⟩
              · rw [hk]; simp [zup4_v]
              · unfold runV; rw [hk, if_neg (by decide), if_neg (by decide), if_neg (by decide)]; simp [zup4_v]
          · skip
            refine zW_e (jn _ _ _ (by decide) (by decide)) ?_
            unfold f_Tokens_keepRun_197
            refine zW_s ?_
            have hk : runK (B 0 0 0) p (q - p) = 3 := by rw [runK_c, if_neg (by first | decide | omega), if_pos ⟨(by first | decide | omega), (by first | decide | omega)⟩]
            refine ⟨rfl, frC_u (frC_u (frC_u (frC_u frC_r (by decide)) (by decide)) (by decide)) (by decide), ?_, ?_⟩
            · rw [hk]; simp [zup4_v]
            · unfold runV; rw [hk, if_neg (by decide), if_pos rfl]; simp [zup4_v]
        · skip
          unfold f_Tokens_keepRun_159
          refine zW_g (by first | decide | omega) ?_
          refine zW_g (by first | decide | omega) ?_
          refine zW_i (fun h7 => ?_) (fun h7 => ?_)
          · skip
            refine zW_i (fun h8 => ?_) (fun h8 => ?_)
            · skip
              unfold f_Tokens_keepRun_197
              refine zW_s ?_
              have hk : runK (B 0 0 0) p (q - p) = 1 := by rw [runK_c, if_neg (by first | decide | omega), if_neg (by first | decide | omega), if_neg (by first | decide | omega)]
              refine ⟨rfl, frC_u (frC_u frC_r (by decide)) (by decide), ?_, ?_⟩
              · rw [hk]; simp [zup4_v]
              · unfold runV; rw [hk, if_neg (by decide), if_neg (by decide), if_neg (by decide)]; simp [zup4_v]
            · skip
              refine zW_g (by first | decide | omega) ?_
              refine zW_g (by first | decide | omega) ?_
              refine zW_e (jn _ _ _ (by decide) (by decide)) ?_
              unfold f_Tokens_keepRun_197
              refine zW_s ?_
              have hk : runK (B 0 0 0) p (q - p) = 4 := by rw [runK_c, if_neg (by first | decide | omega), if_neg (by first | decide | omega), if_pos ⟨(by first | decide | omega), (by first | decide | omega)⟩]
              refine ⟨rfl, frC_u (frC_u (frC_u (frC_u frC_r (by decide)) (by decide)) (by decide)) (by decide), ?_, ?_⟩
              · rw [hk]; simp [zup4_v]
              · unfold runV; rw [hk, if_neg (by decide), if_neg (by decide), if_pos rfl]; simp [zup4_v]
          · skip
            unfold f_Tokens_keepRun_197
            refine zW_s ?_
            have hk : runK (B 0 0 0) p (q - p) = 1 := by rw [runK_c, if_neg (by first | decide | omega), if_neg (by first | decide | omega), if_neg (by first | decide | omega)]
            refine ⟨rfl, frC_u (frC_u frC_r (by decide)) (by decide), ?_, ?_⟩
            · rw [hk]; simp [zup4_v]
            · unfold runV; rw [hk, if_neg (by decide), if_neg (by decide), if_neg (by decide)]; simp [zup4_v]
      · skip
        refine zW_e (pv (by first | decide | omega)) ?_
        unfold f_Tokens_keepRun_197
        refine zW_s ?_
        have hk : runK (B 0 0 0) p (q - p) = 2 := by rw [runK_c, if_pos (by first | decide | omega)]
        refine ⟨rfl, frC_u (frC_u (frC_u (frC_u frC_r (by decide)) (by decide)) (by decide)) (by decide), ?_, ?_⟩
        · rw [hk]; simp [zup4_v]
        · unfold runV; rw [if_pos hk]; simp [zup4_v]
    · skip
      refine zW_g (by first | decide | omega) ?_
      refine zW_e (C_at0 hK0 (by first | decide | omega) (by first | decide | omega) h2) ?_
      refine zW_e (C_Let (by first | decide | omega)) ?_
      refine zW_g (by exact bLet_r _) ?_
      refine zW_i (fun h9 => ?_) (fun h9 => ?_)
      · skip
        unfold f_Tokens_keepRun_35
        refine zW_g (by first | decide | omega) ?_
        refine zW_e (C_at0 hK0 (by first | decide | omega) (by first | decide | omega) h2) ?_
        refine zW_e (C_Dig (by first | decide | omega)) ?_
        refine zW_g (by exact bDig_r _) ?_
        refine zW_i (fun h10 => ?_) (fun h10 => ?_)
        · skip
          unfold f_Tokens_keepRun_57
          have s1 : (k + 1 - p).toNat = (k - p).toNat + 1 := by omega
          have s2 : p + (((k - p).toNat : Nat) : Int) = k := by omega
          have ed : cnt bDig (B 0 0 0) p (k + 1 - p).toNat = cnt bDig (B 0 0 0) p (k - p).toNat + 0 := by
            rw [s1]; show cnt bDig (B 0 0 0) p (k - p).toNat + bDig (B 0 0 0 (p + ((k - p).toNat : Nat))) = _
            rw [s2, h10]
          have el : cnt bLet (B 0 0 0) p (k + 1 - p).toNat = cnt bLet (B 0 0 0) p (k - p).toNat + 0 := by
            rw [s1]; show cnt bLet (B 0 0 0) p (k - p).toNat + bLet (B 0 0 0 (p + ((k - p).toNat : Nat))) = _
            rw [s2, h9]
          have hi := ih (k := k + 1) (by first | decide | omega) (by first | decide | omega) (by first | decide | omega)
          rw [ed, el] at hi
          exact hi
        · skip
          unfold f_Tokens_keepRun_57
          have s1 : (k + 1 - p).toNat = (k - p).toNat + 1 := by omega
          have s2 : p + (((k - p).toNat : Nat) : Int) = k := by omega
          have ed : cnt bDig (B 0 0 0) p (k + 1 - p).toNat = cnt bDig (B 0 0 0) p (k - p).toNat + 1 := by
            rw [s1]; show cnt bDig (B 0 0 0) p (k - p).toNat + bDig (B 0 0 0 (p + ((k - p).toNat : Nat))) = _
            rw [s2, bDig_1 h10]
          have el : cnt bLet (B 0 0 0) p (k + 1 - p).toNat = cnt bLet (B 0 0 0) p (k - p).toNat + 0 := by
            rw [s1]; show cnt bLet (B 0 0 0) p (k - p).toNat + bLet (B 0 0 0 (p + ((k - p).toNat : Nat))) = _
            rw [s2, h9]
          have hi := ih (k := k + 1) (by first | decide | omega) (by first | decide | omega) (by first | decide | omega)
          rw [ed, el] at hi
          exact hi
      · skip
        unfold f_Tokens_keepRun_35
        refine zW_g (by first | decide | omega) ?_
        refine zW_e (C_at0 hK0 (by first | decide | omega) (by first | decide | omega) h2) ?_
        refine zW_e (C_Dig (by first | decide | omega)) ?_
        refine zW_g (by exact bDig_r _) ?_
        refine zW_i (fun h11 => ?_) (fun h11 => ?_)
        · skip
          unfold f_Tokens_keepRun_57
          have s1 : (k + 1 - p).toNat = (k - p).toNat + 1 := by omega
          have s2 : p + (((k - p).toNat : Nat) : Int) = k := by omega
          have ed : cnt bDig (B 0 0 0) p (k + 1 - p).toNat = cnt bDig (B 0 0 0) p (k - p).toNat + 0 := by
            rw [s1]; show cnt bDig (B 0 0 0) p (k - p).toNat + bDig (B 0 0 0 (p + ((k - p).toNat : Nat))) = _
            rw [s2, h11]
          have el : cnt bLet (B 0 0 0) p (k + 1 - p).toNat = cnt bLet (B 0 0 0) p (k - p).toNat + 1 := by
            rw [s1]; show cnt bLet (B 0 0 0) p (k - p).toNat + bLet (B 0 0 0 (p + ((k - p).toNat : Nat))) = _
            rw [s2, bLet_1 h9]
          have hi := ih (k := k + 1) (by first | decide | omega) (by first | decide | omega) (by first | decide | omega)
          rw [ed, el] at hi
          exact hi
        · skip
          unfold f_Tokens_keepRun_57
          have s1 : (k + 1 - p).toNat = (k - p).toNat + 1 := by omega
          have s2 : p + (((k - p).toNat : Nat) : Int) = k := by omega
          have ed : cnt bDig (B 0 0 0) p (k + 1 - p).toNat = cnt bDig (B 0 0 0) p (k - p).toNat + 1 := by
            rw [s1]; show cnt bDig (B 0 0 0) p (k - p).toNat + bDig (B 0 0 0 (p + ((k - p).toNat : Nat))) = _
            rw [s2, bDig_1 h11]
          have el : cnt bLet (B 0 0 0) p (k + 1 - p).toNat = cnt bLet (B 0 0 0) p (k - p).toNat + 1 := by
            rw [s1]; show cnt bLet (B 0 0 0) p (k - p).toNat + bLet (B 0 0 0 (p + ((k - p).toNat : Nat))) = _
            rw [s2, bLet_1 h9]
          have hi := ih (k := k + 1) (by first | decide | omega) (by first | decide | omega) (by first | decide | omega)
          rw [ed, el] at hi
          exact hi
theorem C_keepRun {K : zK} {T p q : Int} {F : zF} {B : zB} (hK : 3002 ≤ K.1) (hK0 : 0 < K.2 0) (hK10 : 0 < K.2 10) (h2 : F 0 0 1 ≤ 3000) (hb : ∀ y, 0 ≤ B 0 0 0 y ∧ B 0 0 0 y < 256) (hT : 0 ≤ T ∧ T < 3001) (hp : 0 ≤ p) (hpq : p < q) (hq : q ≤ F 0 0 1) : zW (f_Tokens_keepRun K 0 0 T p q F B) (fun r F' B' => F' = F ∧ frC [5, 7] T B B' ∧ B' 10 0 5 T = runK (B 0 0 0) p (q - p) ∧ B' 10 0 7 T = runV (B 0 0 0) p q) := by
  have h := C_kr hK hK0 hK10 h2 hb hT hp hpq hq (n := K.1) (k := p) (by first | decide | omega) (by first | decide | omega) (by first | decide | omega)
  rw [show (p - p).toNat = 0 by omega] at h
  exact h
end
end
section
section
/-! ===== strings and signs ===== -/
theorem toI_r (x : Int32) : r32 x.toInt := ⟨Int32.le_toInt _, Int.lt_of_le_of_lt (Int32.toInt_le x) (by decide)⟩
theorem zsb_r (s : Nat) (k : Int) : r32 (zsb s k) := toI_r _
theorem zi2b_q (x : Int) : r32 (zi2b x) := toI_r _
theorem zb_s {r : Int} {F : zF} {B : zB} {k : Int → zF → zB → zO} : zbind (some (r, F, B)) k = k r F B := rfl
theorem zi2c_b {b : Int} (h0 : 0 ≤ b) (h1 : b < 256) : zi2c b = b := by
  have h : ∀ c : Fin 256, zi2c (c.val : Int) = (c.val : Int) := by decide +kernel
  have := h ⟨b.toNat, (by first | decide | omega)⟩
  rwa [show (((⟨b.toNat, (by first | decide | omega)⟩ : Fin 256).val : Nat) : Int) = b by show ((b.toNat : Nat) : Int) = b; omega] at this
theorem C_slen {K : zK} {s : Nat} {F : zF} {B : zB} (h : s < strL.length) (hz : zshr (zsl s) 0 = zsl s) : f_CString_length K s F B = some (zsl s, F, B) := by
  unfold f_CString_length f_CString_coder f_CString_coder_14
  rw [if_pos h, if_neg (by decide), if_pos h, if_pos (by decide)]
  show some (zshr (zsl s) 0, F, B) = _
  rw [hz]
theorem C_slat {K : zK} {s : Nat} {F : zF} {B : zB} (h : s < strL.length) : f_CString_isLatin1 K s F B = some (1, F, B) := by
  unfold f_CString_isLatin1 f_CString_isLatin1_18
  rw [if_neg (by decide), if_pos h, if_pos rfl, if_pos (by decide)]
theorem L_slen {K : Nat} {s : Nat} {F : zF} {B : zB} (h : s < strL.length) (hz : zshr (zsl s) 0 = zsl s) : f_String_length K s F B = some (zsl s, F, B) := by
  unfold f_String_length f_String_coder f_String_coder_14
  rw [if_pos h, if_neg (by decide), if_pos h, if_pos (by decide)]
  show some (zshr (zsl s) 0, F, B) = _
  rw [hz]
theorem L_slat {K : Nat} {s : Nat} {F : zF} {B : zB} (h : s < strL.length) : f_String_isLatin1 K s F B = some (1, F, B) := by
  unfold f_String_isLatin1 f_String_isLatin1_18
  rw [if_neg (by decide), if_pos h, if_pos rfl, if_pos (by decide)]
def zsc (s : Nat) (k : Int) : Int := zi2c (zand (zsb s k) 255)
theorem zsc_b (s : Nat) (k : Int) : 0 ≤ zsc s k ∧ zsc s k < 256 := by
  unfold zsc
  rw [zand255, zi2c_b (by first | decide | omega) (by first | decide | omega)]
  omega
theorem L_schar {K : Nat} {s : Nat} {k : Int} {F : zF} {B : zB} (h : s < strL.length) (h0 : 0 ≤ k) (h1 : k < zsl s) (h2 : zsl s ≤ 1000) : f_String_charAt K s k F B = some (zsc s k, F, B) := by
  have b := zsc_b s k
  unfold f_String_charAt
  rw [if_pos h, L_slat h]
  simp only [zb_s]
  rw [if_pos (by decide), if_neg (by decide)]
  unfold f_StringLatin1_charAt f_String_checkIndex f_Preconditions_checkIndex
  rw [if_pos h, if_pos (by first | decide | omega), if_neg (by first | decide | omega), if_pos (by first | decide | omega), if_pos h1]
  simp only [zb_s]
  rw [if_pos ⟨h0, h1⟩]
  rw [show zi2c (zand (zsb s k) 255) = zsc s k from rfl]
  rw [if_pos (by first | decide | omega)]
  simp only [zb_s]
  rw [if_pos (by first | decide | omega)]
theorem C_schar {K : zK} {s : Nat} {k : Int} {F : zF} {B : zB} (h : s < strL.length) (h0 : 0 ≤ k) (h1 : k < zsl s) (h2 : zsl s ≤ 1000) : f_CString_charAt K s k F B = some (zsc s k, F, B) := by
  have b := zsc_b s k
  unfold f_CString_charAt
  rw [if_pos h, C_slat h]
  simp only [zb_s]
  rw [if_pos (by decide), if_neg (by decide)]
  unfold f_CStringLatin1_charAt f_CString_checkIndex f_CPreconditions_checkIndex
  rw [if_pos h, if_pos (by first | decide | omega), if_neg (by first | decide | omega), if_pos (by first | decide | omega), if_pos h1]
  simp only [zb_s]
  rw [if_pos ⟨h0, h1⟩]
  rw [show zi2c (zand (zsb s k) 255) = zsc s k from rfl]
  rw [if_pos (by first | decide | omega)]
  simp only [zb_s]
  rw [if_pos (by first | decide | omega)]
def idxS (s : Nat) (c : Int) : Nat → Int → Int
  | 0, _ => -1
  | f + 1, k => if zsl s ≤ k then -1 else if zsb s k = c then k else idxS s c f (k + 1)
theorem idxS_f {s : Nat} {c : Int} : ∀ {f g : Nat} {k : Int}, zsl s - k < f → zsl s - k < g → 0 < f → 0 < g → idxS s c f k = idxS s c g k := by
  intro f
  induction f with
  | zero => intro g k _ _ h _; omega
  | succ f ih =>
    intro g k a b _ d
    obtain ⟨g, rfl⟩ : ∃ x, g = x + 1 := ⟨g - 1, (by first | decide | omega)⟩
    unfold idxS
    by_cases h : zsl s ≤ k
    · rw [if_pos h, if_pos h]
    · rw [if_neg h, if_neg h]
      by_cases q : zsb s k = c
      · rw [if_pos q, if_pos q]
      · rw [if_neg q, if_neg q]
        exact ih (by first | decide | omega) (by first | decide | omega) (by first | decide | omega) (by first | decide | omega)
theorem C_ixc {K : zK} {s : Nat} {c : Int} {F : zF} {B : zB} (h : s < strL.length) (hc : r32 c) (hl : zsl s ≤ 1000) : ∀ {n : Nat} {k : Int}, 0 ≤ k → k ≤ 1000 → zsl s - k < n → 0 < n → f_CStringLatin1_indexOfChar_7 K n k c s (zsl s) F B = some (idxS s c n k, F, B) := by
  intro n
  induction n with
  | zero => intro k _ _ _ d; omega
  | succ n ih =>
    intro k a b d _
    have h0 : 0 ≤ zsl s := by unfold zsl; omega
    unfold f_CStringLatin1_indexOfChar_7 idxS
    rw [if_pos (by first | decide | omega), if_pos (by first | decide | omega)]
    by_cases g : zsl s ≤ k
    · rw [if_pos g, if_pos g]
    · rw [if_neg g, if_neg g, if_pos h, if_pos (by first | decide | omega), if_pos (zsb_r s k), if_pos hc]
      by_cases q : zsb s k = c
      · rw [if_pos q, if_pos q]
      · rw [if_neg q, if_neg q]
        exact ih (by first | decide | omega) (by first | decide | omega) (by first | decide | omega) (by first | decide | omega)
theorem C_indexOf {K : zK} {s : Nat} {b : Int} {F : zF} {B : zB} (hK : 102 ≤ K.1) (h : s < strL.length) (hz : zshr (zsl s) 0 = zsl s) (hl : 0 < zsl s) (hl2 : zsl s ≤ 100) (h0 : 0 ≤ b) (h1 : b < 256) : f_CString_indexOf_0 K s b F B = some (idxS s (zi2b b) 102 0, F, B) := by
  unfold f_CString_indexOf_0 f_CString_indexOf_1
  rw [if_pos h, if_pos h, C_slat h]
  simp only [zb_s]
  rw [if_pos (by decide), if_neg (by decide), C_slen h hz]
  simp only [zb_s]
  have e : f_CStringLatin1_indexOf K s b 0 (zsl s) F B = some (idxS s (zi2b b) 102 0, F, B) := by
    have z1 : zmax 0 0 = 0 := by decide
    have z2 : zmin (zsl s) (zsl s) = zsl s := by unfold zmin; rw [if_neg (by first | decide | omega)]
    unfold f_CStringLatin1_indexOf f_CStringLatin1_canEncode f_CStringLatin1_canEncode_16
    rw [if_pos (by first | decide | omega), if_neg (by first | decide | omega), if_neg (by first | decide | omega), if_pos (by decide)]
    simp only [zb_s]
    rw [if_pos (by decide), if_neg (by decide), if_pos (by decide), if_pos h, if_pos (by first | decide | omega), if_pos (by first | decide | omega), z1, z2, if_pos (by decide), if_pos (by first | decide | omega), if_pos hl]
    unfold f_CStringLatin1_indexOfChar
    rw [C_ixc h (zi2b_q b) (by first | decide | omega) (by first | decide | omega) (by first | decide | omega) (by first | decide | omega) (by first | decide | omega), idxS_f (g := 102) (by first | decide | omega) (by first | decide | omega) (by first | decide | omega) (by first | decide | omega)]
    rfl
  rw [e]
  rfl
def sgL : List Int := [123, 125, 91, 93, 60, 62, 40, 41, 58, 47, 46, 124, 126, 33, 39, 94, 45, 37, 61]
def bSg (b : Int) : Int := if b ∈ sgL then 1 else 0
theorem bSg_2 (b : Int) : bSg b = 0 ∨ bSg b = 1 := by unfold bSg; split <;> omega
theorem idx22 : ∀ c : Fin 256, -1 ≤ idxS 22 (zi2b (c.val : Int)) 102 0 ∧ idxS 22 (zi2b (c.val : Int)) 102 0 ≤ 18 ∧ (idxS 22 (zi2b (c.val : Int)) 102 0 < 0 ↔ bSg (c.val : Int) = 0) := by decide +kernel
theorem C_sign {K : zK} {b : Int} {F : zF} {B : zB} (hK : 102 ≤ K.1) (h0 : 0 ≤ b) (h1 : b < 256) : ∃ r, f_CString_indexOf_0 K 22 b F B = some (r, F, B) ∧ r32 r ∧ (r < 0 ↔ bSg b = 0) := by
  have i := idx22 ⟨b.toNat, (by first | decide | omega)⟩
  rw [show (((⟨b.toNat, (by first | decide | omega)⟩ : Fin 256).val : Nat) : Int) = b by show ((b.toNat : Nat) : Int) = b; omega] at i
  exact ⟨_, C_indexOf hK (by decide) (by decide) (by decide) (by decide) h0 h1, (by first | decide | omega), i.2.2⟩
def oneS (s : Nat) (c : Int) : Nat → Int → Int → Int
  | 0, _, a => a
  | f + 1, k, a => if zsl s ≤ k then a else oneS s c f (k + 1) (if a = 0 then (if zsc s k = c then 1 else 0) else 1)
theorem oneS_f {s : Nat} {c : Int} : ∀ {f g : Nat} {k a : Int}, zsl s - k < f → zsl s - k < g → 0 < f → 0 < g → oneS s c f k a = oneS s c g k a := by
  intro f
  induction f with
  | zero => intro g k a _ _ h _; omega
  | succ f ih =>
    intro g k a x y _ d
    obtain ⟨g, rfl⟩ : ∃ x, g = x + 1 := ⟨g - 1, (by first | decide | omega)⟩
    unfold oneS
    by_cases h : zsl s ≤ k
    · rw [if_pos h, if_pos h]
    · rw [if_neg h, if_neg h]
      exact ih (by first | decide | omega) (by first | decide | omega) (by first | decide | omega) (by first | decide | omega)
theorem L_one {K : Nat} {s : Nat} {c : Int} {F : zF} {B : zB} (h : s < strL.length) (hz : zshr (zsl s) 0 = zsl s) (hc : r32 c) (hl : zsl s ≤ 1000) : ∀ {n : Nat} {k a : Int}, 0 ≤ k → k ≤ 1000 → zsl s - k < n → 0 < n → (a = 0 ∨ a = 1) → f_M_isOneOf_4 K n k a s c F B = some (oneS s c n k a, F, B) := by
  intro n
  induction n with
  | zero => intro k a _ _ _ d _; omega
  | succ n ih =>
    intro k a x y d _ ha
    have h0 : 0 ≤ zsl s := by unfold zsl; omega
    unfold f_M_isOneOf_4 oneS
    rw [if_pos h, L_slen h hz]
    simp only [zb_s]
    rw [if_pos (by first | decide | omega), if_pos (by first | decide | omega)]
    by_cases g : zsl s ≤ k
    · rw [if_pos g, if_pos g, if_pos ha]
    · have b := zsc_b s k
      rw [if_neg g, if_neg g, if_pos (by first | decide | omega)]
      by_cases q : a = 0
      · rw [if_pos q, if_pos q, L_schar h x (by first | decide | omega) hl]
        simp only [zb_s]
        rw [if_pos (by first | decide | omega), if_pos hc]
        by_cases w : zsc s k = c
        · rw [if_pos w, if_pos w]
          unfold f_M_isOneOf_25 f_M_isOneOf_30
          exact ih (by first | decide | omega) (by first | decide | omega) (by first | decide | omega) (by first | decide | omega) (by first | decide | omega)
        · rw [if_neg w, if_neg w]
          unfold f_M_isOneOf_30
          exact ih (by first | decide | omega) (by first | decide | omega) (by first | decide | omega) (by first | decide | omega) (by first | decide | omega)
      · rw [if_neg q, if_neg q]
        unfold f_M_isOneOf_25 f_M_isOneOf_30
        exact ih (by first | decide | omega) (by first | decide | omega) (by first | decide | omega) (by first | decide | omega) (by first | decide | omega)
theorem one35 : ∀ c : Fin 256, oneS 35 (c.val : Int) 21 0 0 = bSg (c.val : Int) := by decide +kernel
theorem L_sign {K : Nat} {b : Int} {F : zF} {B : zB} (hK : 102 ≤ K) (h0 : 0 ≤ b) (h1 : b < 256) : f_M_isOneOf K 35 b F B = some (bSg b, F, B) := by
  have i := one35 ⟨b.toNat, (by first | decide | omega)⟩
  rw [show (((⟨b.toNat, (by first | decide | omega)⟩ : Fin 256).val : Nat) : Int) = b by show ((b.toNat : Nat) : Int) = b; omega] at i
  have hl : zsl 35 = 19 := by decide
  unfold f_M_isOneOf
  rw [L_one (by decide) (by decide) (by first | decide | omega) (by decide) (by first | decide | omega) (by first | decide | omega) (by first | decide | omega) (by first | decide | omega) (by first | decide | omega), oneS_f (g := 21) (by first | decide | omega) (by first | decide | omega) (by first | decide | omega) (by first | decide | omega), i]
end
end
section
section
/-! ===== the tokens of a text, as a list of places; the class finds them ===== -/
def lexL (t : Int → Int) (n : Int) : Nat → Int → List (Int × Int)
  | 0, _ => []
  | f + 1, p => if n ≤ p then [] else if bBlank (t p) = 0 then (if bRun (t p) = 0 then (p, p + 1) :: lexL t n f (p + 1) else (p, runQ t n p) :: lexL t n f (runQ t n p)) else lexL t n f (p + 1)
theorem runQ_b {t : Int → Int} {n p : Int} (hn : n ≤ 3000) (h0 : 0 ≤ p) (h : ¬ n ≤ p) (hb : ¬ bRun (t p) = 0) : p < runQ t n p ∧ runQ t n p ≤ n := runE_run h hb (by first | decide | omega)
theorem lexL_f {t : Int → Int} {n : Int} (hn : n ≤ 3000) : ∀ {f g : Nat} {p : Int}, 0 ≤ p → n - p < f → n - p < g → 0 < f → 0 < g → lexL t n f p = lexL t n g p := by
  intro f
  induction f with
  | zero => intro g p _ _ _ h _; omega
  | succ f ih =>
    intro g p h0 a b _ d
    obtain ⟨g, rfl⟩ : ∃ x, g = x + 1 := ⟨g - 1, (by first | decide | omega)⟩
    unfold lexL
    by_cases h : n ≤ p
    · rw [if_pos h, if_pos h]
    · rw [if_neg h, if_neg h]
      by_cases q : bBlank (t p) = 0
      · rw [if_pos q, if_pos q]
        by_cases w : bRun (t p) = 0
        · rw [if_pos w, if_pos w, ih (g := g) (by first | decide | omega) (by first | decide | omega) (by first | decide | omega) (by first | decide | omega) (by first | decide | omega)]
        · have := runQ_b hn h0 h w
          rw [if_neg w, if_neg w, ih (g := g) (by first | decide | omega) (by first | decide | omega) (by first | decide | omega) (by first | decide | omega) (by first | decide | omega)]
      · rw [if_neg q, if_neg q, ih (g := g) (by first | decide | omega) (by first | decide | omega) (by first | decide | omega) (by first | decide | omega) (by first | decide | omega)]
def lexF (t : Int → Int) (n p : Int) : List (Int × Int) := lexL t n 3002 p
theorem lexF_0 {t : Int → Int} {n p : Int} (h : n ≤ p) : lexF t n p = [] := by
  unfold lexF
  show lexL t n (3001 + 1) p = _
  unfold lexL
  rw [if_pos h]
theorem lexF_b {t : Int → Int} {n p : Int} (hn : n ≤ 3000) (h0 : 0 ≤ p) (h : ¬ n ≤ p) (hb : ¬ bBlank (t p) = 0) : lexF t n p = lexF t n (p + 1) := by
  rw [show lexF t n p = lexL t n (3001 + 1) p from rfl]
  unfold lexL
  rw [if_neg h, if_neg hb]
  exact lexL_f (f := 3001) (g := 3002) hn (by first | decide | omega) (by first | decide | omega) (by first | decide | omega) (by first | decide | omega) (by first | decide | omega)
theorem lexF_s {t : Int → Int} {n p : Int} (hn : n ≤ 3000) (h0 : 0 ≤ p) (h : ¬ n ≤ p) (hb : bBlank (t p) = 0) (hr : bRun (t p) = 0) : lexF t n p = (p, p + 1) :: lexF t n (p + 1) := by
  rw [show lexF t n p = lexL t n (3001 + 1) p from rfl]
  unfold lexL
  rw [if_neg h, if_pos hb, if_pos hr]
  rw [lexL_f (f := 3001) (g := 3002) hn (by first | decide | omega) (by first | decide | omega) (by first | decide | omega) (by first | decide | omega) (by first | decide | omega)]
  rfl
theorem lexF_r {t : Int → Int} {n p : Int} (hn : n ≤ 3000) (h0 : 0 ≤ p) (h : ¬ n ≤ p) (hb : bBlank (t p) = 0) (hr : ¬ bRun (t p) = 0) : lexF t n p = (p, runQ t n p) :: lexF t n (runQ t n p) := by
  have := runQ_b hn h0 h hr
  rw [show lexF t n p = lexL t n (3001 + 1) p from rfl]
  unfold lexL
  rw [if_neg h, if_pos hb, if_neg hr]
  rw [lexL_f (f := 3001) (g := 3002) hn (by first | decide | omega) (by first | decide | omega) (by first | decide | omega) (by first | decide | omega) (by first | decide | omega)]
  rfl
def tokK (t : Int → Int) (a : Int × Int) : Int := if bRun (t a.1) = 0 then (if bSg (t a.1) = 0 then 1 else 5) else runK t a.1 (a.2 - a.1)
def tokV (t : Int → Int) (a : Int × Int) : Int := if bRun (t a.1) = 0 then t a.1 else runV t a.1 a.2
def lexC (t : Int → Int) (n : Int) : List (Int × Int) → Int → zB → Prop
  | [], T, B => B 10 0 5 T = 0 ∧ B 10 0 6 T = n ∧ B 10 0 7 T = 0
  | a :: L, T, B => B 10 0 5 T = tokK t a ∧ B 10 0 6 T = a.1 ∧ B 10 0 7 T = tokV t a ∧ lexC t n L (T + 1) B
/-- nothing but the rows ks of object 0 of class cc changes, and these from T on alone -/
def frG (cc : Nat) (ks : List Nat) (T : Int) (B B' : zB) : Prop := ∀ c i k j, ¬ (c = cc ∧ i = 0 ∧ k ∈ ks ∧ T ≤ j) → B' c i k j = B c i k j
theorem frG_r {cc : Nat} {ks : List Nat} {T : Int} {B : zB} : frG cc ks T B B := fun _ _ _ _ _ => rfl
theorem frG_u {cc : Nat} {ks : List Nat} {k : Nat} {T v j : Int} {B B' : zB} (h : frG cc ks T B B') (hk : k ∈ ks) (hj : T ≤ j) : frG cc ks T B (zup4 B' cc 0 k j v) := by
  intro c i x y hn
  rw [zup4_v, if_neg (fun z => hn ⟨z.1, z.2.1, by rw [z.2.2.1]; exact hk, by rw [z.2.2.2]; exact hj⟩)]
  exact h c i x y hn
theorem frG_t {cc : Nat} {ks : List Nat} {T : Int} {B B' B'' : zB} (h : frG cc ks T B B') (h' : frG cc ks T B' B'') : frG cc ks T B B'' := fun c i k j hn => by rw [h' c i k j hn, h c i k j hn]
theorem frG_m {cc : Nat} {ks : List Nat} {T U : Int} {B B' : zB} (h : frG cc ks T B B') (hk : U ≤ T) : frG cc ks U B B' := fun c i k j hn => h c i k j (fun z => hn ⟨z.1, z.2.1, z.2.2.1, Int.le_trans hk z.2.2.2⟩)
theorem frG_c {ks : List Nat} {T : Int} {B B' : zB} (h : frC ks T B B') (hk : ∀ k ∈ ks, k ∈ [5, 6, 7]) : frG 10 [5, 6, 7] T B B' := fun c i k j hn => h c i k j (fun z => hn ⟨z.1, z.2.1, hk k z.2.2.1, Int.le_of_eq z.2.2.2.symm⟩)
theorem frG_f {ks ls : List Nat} {T : Int} {B B' : zB} (h : frT ks T B B') (hk : ∀ k ∈ ks, k ∈ ls) : frG 14 ls T B B' := fun c i k j hn => h c i k j (fun z => hn ⟨z.1, z.2.1, hk k z.2.2.1, Int.le_of_eq z.2.2.2.symm⟩)
theorem frG_0 {cc : Nat} {ks : List Nat} {T : Int} {B B' : zB} (h : frG cc ks T B B') (hc : cc ≠ 0) : B' 0 0 0 = B 0 0 0 := by
  funext y; exact h 0 0 0 y (fun z => hc z.1.symm)
theorem lexC_1 {t : Int → Int} {n : Int} {a : Int × Int} {L : List (Int × Int)} {T : Int} {B B' : zB} (h5 : B 10 0 5 T = tokK t a) (h6 : B 10 0 6 T = a.1) (h7 : B 10 0 7 T = tokV t a) (f : frG 10 [5, 6, 7] (T + 1) B B') (h : lexC t n L (T + 1) B') : lexC t n (a :: L) T B' := by
  refine ⟨?_, ?_, ?_, h⟩
  · rw [f 10 0 5 T (fun z => by have := z.2.2.2; omega)]; exact h5
  · rw [f 10 0 6 T (fun z => by have := z.2.2.2; omega)]; exact h6
  · rw [f 10 0 7 T (fun z => by have := z.2.2.2; omega)]; exact h7
/-- the class's step to its next token -/
def advF (F : zF) (B : zB) : zF := if B 10 0 5 (F 10 0 8) = 2 then zup3 (zup3 (zup3 (zup3 (zup3 (zup3 F 10 0 0 (B 10 0 5 (F 10 0 8))) 10 0 1 (B 10 0 6 (F 10 0 8))) 10 0 2 (B 10 0 7 (F 10 0 8))) 10 0 3 (zdv (B 10 0 7 (F 10 0 8)) 8)) 10 0 4 ((zrm (B 10 0 7 (F 10 0 8)) 8) - 2)) 10 0 8 (if 3000 ≤ F 10 0 8 then F 10 0 8 else F 10 0 8 + 1) else zup3 (zup3 (zup3 (zup3 F 10 0 0 (B 10 0 5 (F 10 0 8))) 10 0 1 (B 10 0 6 (F 10 0 8))) 10 0 2 (B 10 0 7 (F 10 0 8))) 10 0 8 (if B 10 0 5 (F 10 0 8) = 0 ∨ 3000 ≤ F 10 0 8 then F 10 0 8 else F 10 0 8 + 1)
theorem zup3_id {F : zF} {c k : Nat} {i v : Int} (h : F c i k = v) : zup3 F c i k v = F := by
  funext c' i' k'
  rw [zup3_v]
  split
  · rename_i z; rw [z.1, z.2.1, z.2.2]; exact h.symm
  · rfl
theorem C_advance {K : zK} {F : zF} {B : zB} (hK10 : 0 < K.2 10) (h0 : 0 ≤ F 10 0 8) (h1 : F 10 0 8 < 3001) (hr : r32 (B 10 0 5 (F 10 0 8))) : f_Tokens_advance K 0 F B = some (0, advF F B, B) := by
  refine zW_ex ?_
  unfold f_Tokens_advance
  refine zW_g ⟨(by first | decide | omega), hK10⟩ ?_
  refine zW_g ⟨h0, h1⟩ ?_
  refine zW_g hr ?_
  refine zW_i (fun h2 => ?_) (fun h2 => ?_)
  · unfold f_Tokens_advance_73
    refine zW_g ⟨(by first | decide | omega), hK10⟩ ?_
    refine zW_g (by simp [zup3_v]; omega) ?_
    refine zW_i (fun h3 => ?_) (fun h3 => ?_)
    · exfalso; simp [zup3_v] at h3; omega
    · refine zW_g (by simp [zup3_v]; omega) ?_
      refine zW_i (fun h4 => ?_) (fun h4 => ?_)
      · simp [zup3_v] at h4
        unfold f_Tokens_advance_100
        refine zW_s ⟨rfl, ?_, rfl⟩
        unfold advF
        rw [if_pos h2, if_pos h4]
        exact (zup3_id (by simp [zup3_v])).symm
      · simp [zup3_v] at h4
        unfold f_Tokens_advance_100
        refine zW_s ⟨rfl, ?_, rfl⟩
        unfold advF
        rw [if_pos h2, if_neg (by first | decide | omega)]
        simp [zup3_v]
  · unfold f_Tokens_advance_73
    refine zW_g ⟨(by first | decide | omega), hK10⟩ ?_
    refine zW_g (by simp [zup3_v]; omega) ?_
    refine zW_i (fun h3 => ?_) (fun h3 => ?_)
    · simp [zup3_v] at h3
      unfold f_Tokens_advance_100
      refine zW_s ⟨rfl, ?_, rfl⟩
      unfold advF
      rw [if_neg h2, if_pos (Or.inl h3)]
      exact (zup3_id (by simp [zup3_v])).symm
    · simp [zup3_v] at h3
      refine zW_g (by simp [zup3_v]; omega) ?_
      refine zW_i (fun h4 => ?_) (fun h4 => ?_)
      · simp [zup3_v] at h4
        unfold f_Tokens_advance_100
        refine zW_s ⟨rfl, ?_, rfl⟩
        unfold advF
        rw [if_neg h2, if_pos (Or.inr h4)]
        exact (zup3_id (by simp [zup3_v])).symm
      · simp [zup3_v] at h4
        unfold f_Tokens_advance_100
        refine zW_s ⟨rfl, ?_, rfl⟩
        unfold advF
        rw [if_neg h2, if_neg (by first | decide | omega)]
        simp [zup3_v]
theorem k5_u {B : zB} {k : Nat} {T v : Int} (h : ∀ j, r32 (B 10 0 5 j)) (hv : r32 v) : ∀ j, r32 (zup4 B 10 0 k T v 10 0 5 j) := by
  intro j
  rw [zup4_v]
  split
  · exact hv
  · exact h j
theorem k5_o {B : zB} {k : Nat} {T v : Int} (h : ∀ j, r32 (B 10 0 5 j)) (hk : k ≠ 5) : ∀ j, r32 (zup4 B 10 0 k T v 10 0 5 j) := by
  intro j
  rw [zup4_v, if_neg (fun z => hk z.2.2.1.symm)]
  exact h j
theorem runK_r (t : Int → Int) (p s : Int) : 1 ≤ runK t p s ∧ runK t p s ≤ 4 := by
  unfold runK
  split
  · omega
  · split
    · omega
    · split <;> omega
/-- what the class's tokens are, once they are found -/
def lexP (t : Int → Int) (n p T : Int) (F : zF) (B : zB) (F' : zF) (B' : zB) : Prop := F' = advF (zup3 F 10 0 8 0) B' ∧ lexC t n (lexF t n p) T B' ∧ frG 10 [5, 6, 7] T B B' ∧ ∀ j, r32 (B' 10 0 5 j)
theorem C_st135 {K : zK} {F : zF} {B : zB} {t : Int → Int} {n p T : Int} (hK0 : 0 < K.2 0) (hK10 : 0 < K.2 10) (hn : F 0 0 1 = n) (hT : 0 ≤ T ∧ T < 3001) (hp : n ≤ p) (h5 : ∀ j, r32 (B 10 0 5 j)) : zW (f_Tokens_start_135 K T 0 0 F B) (fun _ F' B' => lexP t n p T F B F' B') := by
  have k5 : ∀ j, r32 ((zup4 (zup4 (zup4 B 10 0 5 T 0) 10 0 6 T (F 0 0 1)) 10 0 7 T 0) 10 0 5 j) := k5_o (k5_o (k5_u h5 (by decide)) (by decide)) (by decide)
  unfold f_Tokens_start_135
  refine zW_g ⟨(by first | decide | omega), hK10⟩ ?_
  refine zW_g hT ?_
  refine zW_g ⟨(by first | decide | omega), hK0⟩ ?_
  refine zW_e (C_advance hK10 (by simp [zup3_v]) (by simp [zup3_v]) (k5 _)) ?_
  refine zW_s ⟨rfl, ?_, frG_u (frG_u (frG_u frG_r (by decide) (by first | decide | omega)) (by decide) (by first | decide | omega)) (by decide) (by first | decide | omega), k5⟩
  rw [lexF_0 hp]
  refine ⟨?_, ?_, ?_⟩
  · simp [zup4_v]
  · simp [zup4_v, hn]
  · simp [zup4_v]
theorem C_st7 {K : zK} {F : zF} {t : Int → Int} {n : Int} (hK : 3002 ≤ K.1) (hK0 : 0 < K.2 0) (hK10 : 0 < K.2 10) (hn : F 0 0 1 = n) (n0 : 0 ≤ n) (n2 : n ≤ 3000) (hb : ∀ y, 0 ≤ t y ∧ t y < 256) : ∀ {m : Nat} {i T p : Int} {B : zB}, 0 ≤ i → i ≤ p → 0 ≤ T → T ≤ p → p ≤ n → n - p < m → B 0 0 0 = t → (∀ j, r32 (B 10 0 5 j)) → zW (f_Tokens_start_7 K m i T p 0 0 F B) (fun _ F' B' => lexP t n p T F B F' B') := by
  intro m
  induction m with
  | zero => intro i T p B _ _ _ _ _ _; omega
  | succ m ih =>
    intro i T p B i0 i1 T0 T1 p1 hm ht k5
    have hbp := hb p
    have e6 : (zup4 B 10 0 6 T p) 0 0 0 = t := (frG_0 (frG_u (cc := 10) (ks := [5, 6, 7]) (T := T) frG_r (by decide) (by first | decide | omega)) (by decide)).trans ht
    have h56 : ∀ j, r32 ((zup4 B 10 0 6 T p) 10 0 5 j) := k5_o k5 (by decide)
    unfold f_Tokens_start_7
    refine zW_g (by first | decide | omega) ?_
    refine zW_i (fun h1 => ?_) (fun h1 => ?_)
    · skip
      exact C_st135 hK0 hK10 hn (by first | decide | omega) (by first | decide | omega) k5
    · skip
      refine zW_g (by first | decide | omega) ?_
      refine zW_g (by first | decide | omega) ?_
      refine zW_g (by first | decide | omega) ?_
      refine zW_i (fun h2 => ?_) (fun h2 => ?_)
      · skip
        exact C_st135 hK0 hK10 hn (by first | decide | omega) (by first | decide | omega) k5
      · skip
        have hat : f_ByteRow_at K 0 p F B = some (t p, F, B) := by
          rw [← ht]; exact C_at0 hK0 (by first | decide | omega) (by first | decide | omega) (by first | decide | omega)
        refine zW_e (hat) ?_
        refine zW_e (C_Blank (by first | decide | omega)) ?_
        refine zW_g (by exact bBlank_r _) ?_
        refine zW_i (fun h3 => ?_) (fun h3 => ?_)
        · skip
          refine zW_e (C_Run (by first | decide | omega)) ?_
          refine zW_g (by exact bRun_r _) ?_
          refine zW_i (fun h4 => ?_) (fun h4 => ?_)
          · skip
            unfold f_Tokens_start_63
            refine zW_g (by first | decide | omega) ?_
            refine zW_g (by first | decide | omega) ?_
            refine zW_e (C_Run (by first | decide | omega)) ?_
            refine zW_g (by exact bRun_r _) ?_
            refine zW_i (fun h5 => ?_) (fun h5 => ?_)
            · skip
              rw [zi2c_b (b := t p) (by first | decide | omega) (by first | decide | omega)]
              obtain ⟨r21, hs1, hs2, hs3⟩ := C_sign (K := K) (b := t p) (F := F) (B := zup4 B 10 0 6 T p) (by first | decide | omega) (by first | decide | omega) (by first | decide | omega)
              refine zW_e (hs1) ?_
              refine zW_g (by exact hs2) ?_
              refine zW_i (fun h6 => ?_) (fun h6 => ?_)
              · skip
                unfold f_Tokens_start_113
                refine zW_g (by first | decide | omega) ?_
                refine zW_g (by first | decide | omega) ?_
                refine zW_g (by first | decide | omega) ?_
                refine zW_g (by first | decide | omega) ?_
                refine zW_g (by first | decide | omega) ?_
                unfold f_Tokens_start_123
                unfold f_Tokens_start_129
                have hsg : bSg (t p) = 0 := hs3.mp h6
                refine zW_m (ih (i := i + 1) (T := T + 1) (p := p + 1) (by first | decide | omega) (by first | decide | omega) (by first | decide | omega) (by first | decide | omega) (by first | decide | omega) (by first | decide | omega) ((frG_0 (frG_u (frG_u (frG_u (cc := 10) (ks := [5, 6, 7]) (T := T) frG_r (by decide) (by first | decide | omega)) (by decide) (by first | decide | omega)) (by decide) (by first | decide | omega)) (by decide)).trans ht) (k5_o (k5_u h56 (by decide)) (by decide))) (fun r F' B' hh => ?_)
                obtain ⟨g1, g2, g3, g4⟩ := hh
                refine ⟨g1, ?_, frG_t (frG_u (frG_u (frG_u (cc := 10) (ks := [5, 6, 7]) (T := T) frG_r (by decide) (by first | decide | omega)) (by decide) (by first | decide | omega)) (by decide) (by first | decide | omega)) (frG_m g3 (by first | decide | omega)), g4⟩
                rw [lexF_s n2 (by first | decide | omega) (by first | decide | omega) h3 h4]
                refine lexC_1 ?_ ?_ ?_ g3 g2
                · simp [zup4_v, tokK, h4, hsg]
                · simp [zup4_v]
                · simp [zup4_v, tokV, h4]
              · skip
                unfold f_Tokens_start_113
                refine zW_g (by first | decide | omega) ?_
                refine zW_g (by first | decide | omega) ?_
                refine zW_g (by first | decide | omega) ?_
                refine zW_g (by first | decide | omega) ?_
                refine zW_g (by first | decide | omega) ?_
                unfold f_Tokens_start_123
                unfold f_Tokens_start_129
                have hsg : ¬ bSg (t p) = 0 := fun z => h6 (hs3.mpr z)
                refine zW_m (ih (i := i + 1) (T := T + 1) (p := p + 1) (by first | decide | omega) (by first | decide | omega) (by first | decide | omega) (by first | decide | omega) (by first | decide | omega) (by first | decide | omega) ((frG_0 (frG_u (frG_u (frG_u (cc := 10) (ks := [5, 6, 7]) (T := T) frG_r (by decide) (by first | decide | omega)) (by decide) (by first | decide | omega)) (by decide) (by first | decide | omega)) (by decide)).trans ht) (k5_o (k5_u h56 (by decide)) (by decide))) (fun r F' B' hh => ?_)
                obtain ⟨g1, g2, g3, g4⟩ := hh
                refine ⟨g1, ?_, frG_t (frG_u (frG_u (frG_u (cc := 10) (ks := [5, 6, 7]) (T := T) frG_r (by decide) (by first | decide | omega)) (by decide) (by first | decide | omega)) (by decide) (by first | decide | omega)) (frG_m g3 (by first | decide | omega)), g4⟩
                rw [lexF_s n2 (by first | decide | omega) (by first | decide | omega) h3 h4]
                refine lexC_1 ?_ ?_ ?_ g3 g2
                · simp [zup4_v, tokK, h4, hsg]
                · simp [zup4_v]
                · simp [zup4_v, tokV, h4]
            · skip
              exact absurd h4 h5
          · skip
            have hq := runQ_b (t := t) (n := n) (p := p) n2 (by first | decide | omega) (by first | decide | omega) h4
            have hrE : f_Tokens_runEnd K 0 p F B = some (runQ t n p, F, B) := by
              unfold f_Tokens_runEnd
              rw [C_runEnd hK0 (by first | decide | omega) (by rw [ht]; exact hb) (by first | decide | omega) (by first | decide | omega) (by first | decide | omega), ht, hn, runE_f (f := K.1) (g := 3002) (by first | decide | omega) (by first | decide | omega)]
              rfl
            refine zW_e (hrE) ?_
            unfold f_Tokens_start_63
            refine zW_g (by first | decide | omega) ?_
            refine zW_g (by first | decide | omega) ?_
            refine zW_e (C_Run (by first | decide | omega)) ?_
            refine zW_g (by exact bRun_r _) ?_
            refine zW_i (fun h7 => ?_) (fun h7 => ?_)
            · skip
              exact absurd h7 h4
            · skip
              refine zW_b (C_keepRun hK hK0 hK10 (by first | decide | omega) (by rw [e6]; exact hb) (by first | decide | omega) (by first | decide | omega) hq.1 (by first | decide | omega)) (fun r24 F24 B24 er24 => ?_)
              unfold f_Tokens_start_123
              unfold f_Tokens_start_129
              obtain ⟨e24, k1, k2, k3⟩ := er24
              rw [e6] at k2 k3
              rw [e24]
              have k24 : ∀ j, r32 (B24 10 0 5 j) := by
                intro j
                by_cases hj : j = T
                · rw [hj, k2]
                  have := runK_r t p (runQ t n p - p)
                  omega
                · rw [k1 10 0 5 j (fun z => hj z.2.2.2)]; exact h56 j
              refine zW_m (ih (i := i + 1) (T := T + 1) (p := runQ t n p) (by first | decide | omega) (by first | decide | omega) (by first | decide | omega) (by first | decide | omega) (by first | decide | omega) (by first | decide | omega) ((frC_0 k1).trans e6) k24) (fun r F' B' hh => ?_)
              obtain ⟨g1, g2, g3, g4⟩ := hh
              refine ⟨g1, ?_, frG_t (frG_t (frG_u frG_r (by decide) (by first | decide | omega)) (frG_c k1 (by decide))) (frG_m g3 (by first | decide | omega)), g4⟩
              rw [lexF_r n2 (by first | decide | omega) (by first | decide | omega) h3 h4]
              refine lexC_1 ?_ ?_ ?_ g3 g2
              · rw [k2]; simp [tokK, h4]
              · rw [k1 10 0 6 T (by simp)]; simp [zup4_v]
              · rw [k3]; simp [tokV, h4]
        · skip
          unfold f_Tokens_start_129
          rw [show lexP t n p T F B = lexP t n (p + 1) T F B by unfold lexP; rw [lexF_b n2 (by first | decide | omega) (by first | decide | omega) h3]]
          exact ih (by first | decide | omega) (by first | decide | omega) (by first | decide | omega) (by first | decide | omega) (by first | decide | omega) (by first | decide | omega) ht k5
theorem C_start {K : zK} {F : zF} {B : zB} {t : Int → Int} {n : Int} (hK : 3002 ≤ K.1) (hK0 : 0 < K.2 0) (hK10 : 0 < K.2 10) (hn : F 0 0 1 = n) (h0 : 0 ≤ n) (h2 : n ≤ 3000) (hb : ∀ y, 0 ≤ t y ∧ t y < 256) (ht : B 0 0 0 = t) (h5 : ∀ j, r32 (B 10 0 5 j)) : zW (f_Tokens_start K 0 0 F B) (fun _ F' B' => lexP t n 0 0 F B F' B') := by
  unfold f_Tokens_start
  exact C_st7 hK hK0 hK10 hn h0 h2 hb (by first | decide | omega) (by first | decide | omega) (by first | decide | omega) (by first | decide | omega) (by first | decide | omega) (by first | decide | omega) ht h5
end
end
section
section
/-! ===== the reference finds the same tokens ===== -/
def tokQ (t : Int → Int) (a : Int × Int) (v al w : Int) : Prop := (tokK t a = 3 → v = tokV t a) ∧ (tokK t a = 4 → w = tokV t a) ∧ (tokK t a = 2 → 8 * v + al + 2 = tokV t a ∧ 0 ≤ v ∧ v ≤ 62 ∧ -2 ≤ al ∧ al ≤ 2) ∧ (tokK t a = 5 → v = tokV t a)
def lexM (t : Int → Int) (n : Int) : List (Int × Int) → Int → zB → Prop
  | [], T, B => B 14 0 7 T = 0 ∧ B 14 0 8 T = n
  | a :: L, T, B => B 14 0 7 T = tokK t a ∧ B 14 0 8 T = a.1 ∧ tokQ t a (B 14 0 9 T) (B 14 0 10 T) (B 14 0 11 T) ∧ lexM t n L (T + 1) B
theorem lexM_1 {t : Int → Int} {n : Int} {a : Int × Int} {L : List (Int × Int)} {T : Int} {B B' : zB} (h7 : B 14 0 7 T = tokK t a) (h8 : B 14 0 8 T = a.1) (hq : tokQ t a (B 14 0 9 T) (B 14 0 10 T) (B 14 0 11 T)) (f : frG 14 [7, 8, 9, 10, 11] (T + 1) B B') (h : lexM t n L (T + 1) B') : lexM t n (a :: L) T B' := by
  have g : ∀ k, B' 14 0 k T = B 14 0 k T := fun k => f 14 0 k T (fun z => by have := z.2.2.2; omega)
  refine ⟨?_, ?_, ?_, h⟩
  · rw [g]; exact h7
  · rw [g]; exact h8
  · rw [g, g, g]; exact hq
theorem runK_2 {t : Int → Int} {p s : Int} (h : runK t p s = 2) : pitS t p s = 1 := by
  rw [runK_c] at h
  by_cases g : pitS t p s = 1
  · exact g
  · rw [if_neg g] at h
    split at h
    · omega
    · split at h <;> omega
theorem runK_3 {t : Int → Int} {p s : Int} (h : runK t p s = 3) : cnt bDig t p s.toNat = s ∧ s ≤ 4 := by
  unfold runK at h
  by_cases g : cnt bDig t p s.toNat = s ∧ s ≤ 4
  · exact g
  · rw [if_neg g] at h
    split at h
    · omega
    · split at h <;> omega
theorem runK_4 {t : Int → Int} {p s : Int} (h : runK t p s = 4) : cnt bLet t p s.toNat = s ∧ s ≤ 8 := by
  unfold runK at h
  by_cases g : cnt bDig t p s.toNat = s ∧ s ≤ 4
  · rw [if_pos g] at h; omega
  · rw [if_neg g] at h
    by_cases k : cnt bLet t p s.toNat = s ∧ s ≤ 8
    · exact k
    · rw [if_neg k] at h
      split at h <;> omega
theorem tokQ_run {t : Int → Int} {p q v al w : Int} (hp : p < q) (hr : ¬ bRun (t p) = 0) (h3 : runK t p (q - p) = 3 → v = nmv t 10 48 p (q - p).toNat) (h4 : runK t p (q - p) = 4 → w = wrd t p (q - p).toNat) (h2 : runK t p (q - p) = 2 → v = pitV t p q ∧ al = pitA t p (q - p)) : tokQ t (p, q) v al w := by
  have hk : tokK t (p, q) = runK t p (q - p) := by simp [tokK, hr]
  have hv : tokV t (p, q) = runV t p q := by simp [tokV, hr]
  unfold tokQ
  rw [hk, hv]
  refine ⟨fun z => ?_, fun z => ?_, fun z => ?_, fun z => ?_⟩
  · rw [h3 z]; unfold runV; rw [z, if_neg (by decide), if_pos rfl]
  · have k := runK_4 z
    have e := wrd_e (t := t) (p := p) (m := (q - p).toNat) (by first | decide | omega) (fun j hj => bLet_is (cnt_all (t := t) (p := p) bLet_b (m := (q - p).toNat) (by first | decide | omega) hj))
    rw [h4 z, e.1]; unfold runV; rw [z, if_neg (by decide), if_neg (by decide), if_pos rfl]
  · have k := pitS_k (runK_2 z)
    have e := h2 z
    rw [show p + (q - p) - 1 = q - 1 by omega] at k
    have hA : -2 ≤ pitA t p (q - p) ∧ pitA t p (q - p) ≤ 2 := by unfold pitA; split <;> omega
    have hV : 0 ≤ pitV t p q ∧ pitV t p q ≤ 62 := by unfold pitV; omega
    have hR : runV t p q = 8 * pitV t p q + pitA t p (q - p) + 2 := by unfold runV; rw [if_pos z]
    omega
  · have := runK_r t p (q - p); omega
theorem zup3_2 {F : zF} {c k : Nat} {i v w : Int} : zup3 (zup3 F c i k v) c i k w = zup3 F c i k w := by
  funext c' i' k'
  rw [zup3_v, zup3_v, zup3_v]
  split
  · rfl
  · rfl
theorem tmB_fr {ks : List Nat} {T : Int} {B B' : zB} (h : frT ks T B B') (hk : 2 ∉ ks) : tmB B' = tmB B := by
  funext y
  unfold tmB
  rw [h 14 0 2 y (fun z => hk z.2.2.1)]
def lexR (t : Int → Int) (n p T : Int) (F : zF) (B : zB) (F' : zF) (B' : zB) : Prop := F' = zup3 F 14 0 12 (T + (lexF t n p).length) ∧ lexM t n (lexF t n p) T B' ∧ frG 14 [7, 8, 9, 10, 11] T B B'
theorem L_c7 {K : Nat} {t : Int → Int} {n : Int} (hK : 3002 ≤ K) (n0 : 0 ≤ n) (n2 : n ≤ 3000) : ∀ {m : Nat} {p T : Int} {F : zF} {B : zB}, F 14 0 3 = n → F 14 0 12 = T → 0 ≤ T → T ≤ p → p ≤ n → n - p < m → tmB B = t → zW (f_M_cut_7 K m p F B) (fun _ F' B' => lexR t n p T F B F' B') := by
  intro m
  induction m with
  | zero => intro p T F B _ _ _ _ _ _; omega
  | succ m ih =>
    intro p T F B hn hT T0 T1 p1 hm ht
    subst hT
    have hbp := tmB_b B p
    rw [ht] at hbp
    have t2 : tmB (zup4 (zup4 B 14 0 8 (F 14 0 12) p) 14 0 11 (F 14 0 12) 0) = t := (tmB_up (by decide)).trans ((tmB_up (by decide)).trans ht)
    unfold f_M_cut_7
    refine zW_g (by first | decide | omega) ?_
    refine zW_g (by first | decide | omega) ?_
    refine zW_i (fun h1 => ?_) (fun h1 => ?_)
    · skip
      refine zW_g (by first | decide | omega) ?_
      refine zW_s ?_
      refine ⟨?_, ?_, frG_u (frG_u frG_r (by decide) (by first | decide | omega)) (by decide) (by first | decide | omega)⟩
      · rw [lexF_0 (by first | decide | omega)]; exact (zup3_id (by simp)).symm
      · rw [lexF_0 (by first | decide | omega)]
        refine ⟨?_, ?_⟩
        · simp [zup4_v]
        · simp [zup4_v, hn]
    · skip
      have hby : f_M_byteAt K p F B = some (t p, F, B) := by
        rw [← ht]; exact L_byteA (by first | decide | omega) (by first | decide | omega)
      refine zW_e (hby) ?_
      refine zW_g (by first | decide | omega) ?_
      refine zW_i (fun h2 => ?_) (fun h2 => ?_)
      · skip
        unfold f_M_cut_45
        have hbl : ¬ bBlank (t p) = 0 := by rw [bBlank_0]; omega
        rw [show lexR t n p (F 14 0 12) F B = lexR t n (p + 1) (F 14 0 12) F B by unfold lexR; rw [lexF_b n2 (by first | decide | omega) (by first | decide | omega) hbl]]
        exact ih hn rfl (by first | decide | omega) (by first | decide | omega) (by first | decide | omega) (by first | decide | omega) ht
      · skip
        refine zW_i (fun h3 => ?_) (fun h3 => ?_)
        · skip
          unfold f_M_cut_45
          have hbl : ¬ bBlank (t p) = 0 := by rw [bBlank_0]; omega
          rw [show lexR t n p (F 14 0 12) F B = lexR t n (p + 1) (F 14 0 12) F B by unfold lexR; rw [lexF_b n2 (by first | decide | omega) (by first | decide | omega) hbl]]
          exact ih hn rfl (by first | decide | omega) (by first | decide | omega) (by first | decide | omega) (by first | decide | omega) ht
        · skip
          refine zW_i (fun h4 => ?_) (fun h4 => ?_)
          · skip
            unfold f_M_cut_45
            have hbl : ¬ bBlank (t p) = 0 := by rw [bBlank_0]; omega
            rw [show lexR t n p (F 14 0 12) F B = lexR t n (p + 1) (F 14 0 12) F B by unfold lexR; rw [lexF_b n2 (by first | decide | omega) (by first | decide | omega) hbl]]
            exact ih hn rfl (by first | decide | omega) (by first | decide | omega) (by first | decide | omega) (by first | decide | omega) ht
          · skip
            refine zW_i (fun h5 => ?_) (fun h5 => ?_)
            · skip
              unfold f_M_cut_45
              have hbl : ¬ bBlank (t p) = 0 := by rw [bBlank_0]; omega
              rw [show lexR t n p (F 14 0 12) F B = lexR t n (p + 1) (F 14 0 12) F B by unfold lexR; rw [lexF_b n2 (by first | decide | omega) (by first | decide | omega) hbl]]
              exact ih hn rfl (by first | decide | omega) (by first | decide | omega) (by first | decide | omega) (by first | decide | omega) ht
            · skip
              refine zW_g (by first | decide | omega) ?_
              refine zW_e (L_Run (by first | decide | omega)) ?_
              refine zW_g (by exact bRun_r _) ?_
              refine zW_i (fun h6 => ?_) (fun h6 => ?_)
              · skip
                refine zW_e (L_sign (by first | decide | omega) (by first | decide | omega) (by first | decide | omega)) ?_
                refine zW_g (by have := bSg_2 (t p); omega) ?_
                refine zW_i (fun h7 => ?_) (fun h7 => ?_)
                · skip
                  unfold f_M_cut_110
                  refine zW_g (by first | decide | omega) ?_
                  refine zW_g (by first | decide | omega) ?_
                  unfold f_M_cut_124
                  have hbl : bBlank (t p) = 0 := by rw [bBlank_0]; omega
                  have hk : tokK t (p, p + 1) = 1 := by simp [tokK, h6, h7]
                  refine zW_m (ih (p := p + 1) (T := F 14 0 12 + 1) (by simp [zup3_v]; exact hn) (by simp [zup3_v]) (by first | decide | omega) (by first | decide | omega) (by first | decide | omega) (by first | decide | omega) ((tmB_up (by decide)).trans ((tmB_up (by decide)).trans t2))) (fun r F' B' hh => ?_)
                  obtain ⟨g1, g2, g3⟩ := hh
                  refine ⟨?_, ?_, frG_t (frG_u (frG_u (frG_u (frG_u (cc := 14) (ks := [7, 8, 9, 10, 11]) (T := F 14 0 12) frG_r (by decide) (by first | decide | omega)) (by decide) (by first | decide | omega)) (by decide) (by first | decide | omega)) (by decide) (by first | decide | omega)) (frG_m g3 (by first | decide | omega))⟩
                  · rw [g1, zup3_2, lexF_s n2 (by first | decide | omega) (by first | decide | omega) hbl h6]
                    rw [show F 14 0 12 + 1 + ((lexF t n (p + 1)).length : Int) = F 14 0 12 + (((p, p + 1) :: lexF t n (p + 1)).length : Int) by rw [List.length_cons]; omega]
                  · rw [lexF_s n2 (by first | decide | omega) (by first | decide | omega) hbl h6]
                    refine lexM_1 ?_ ?_ ?_ g3 g2
                    · rw [hk]; simp [zup4_v]
                    · simp [zup4_v]
                    · refine ⟨fun z => ?_, fun z => ?_, fun z => ?_, fun z => ?_⟩
                      · omega
                      · omega
                      · omega
                      · omega
                · skip
                  unfold f_M_cut_110
                  refine zW_g (by first | decide | omega) ?_
                  refine zW_g (by first | decide | omega) ?_
                  unfold f_M_cut_124
                  have hbl : bBlank (t p) = 0 := by rw [bBlank_0]; omega
                  have hk : tokK t (p, p + 1) = 5 := by simp [tokK, h6, h7]
                  refine zW_m (ih (p := p + 1) (T := F 14 0 12 + 1) (by simp [zup3_v]; exact hn) (by simp [zup3_v]) (by first | decide | omega) (by first | decide | omega) (by first | decide | omega) (by first | decide | omega) ((tmB_up (by decide)).trans ((tmB_up (by decide)).trans t2))) (fun r F' B' hh => ?_)
                  obtain ⟨g1, g2, g3⟩ := hh
                  refine ⟨?_, ?_, frG_t (frG_u (frG_u (frG_u (frG_u (cc := 14) (ks := [7, 8, 9, 10, 11]) (T := F 14 0 12) frG_r (by decide) (by first | decide | omega)) (by decide) (by first | decide | omega)) (by decide) (by first | decide | omega)) (by decide) (by first | decide | omega)) (frG_m g3 (by first | decide | omega))⟩
                  · rw [g1, zup3_2, lexF_s n2 (by first | decide | omega) (by first | decide | omega) hbl h6]
                    rw [show F 14 0 12 + 1 + ((lexF t n (p + 1)).length : Int) = F 14 0 12 + (((p, p + 1) :: lexF t n (p + 1)).length : Int) by rw [List.length_cons]; omega]
                  · rw [lexF_s n2 (by first | decide | omega) (by first | decide | omega) hbl h6]
                    refine lexM_1 ?_ ?_ ?_ g3 g2
                    · rw [hk]; simp [zup4_v]
                    · simp [zup4_v]
                    · refine ⟨fun z => ?_, fun z => ?_, fun z => ?_, fun z => ?_⟩
                      · omega
                      · omega
                      · omega
                      · simp [zup4_v, tokV, h6]
              · skip
                refine zW_b (L_cutRun hK (by first | decide | omega) (by first | decide | omega) (by first | decide | omega) (by first | decide | omega) (by first | decide | omega) t2 h6) (fun r23 F23 B23 er23 => ?_)
                unfold f_M_cut_124
                have hbl : bBlank (t p) = 0 := by rw [bBlank_0]; omega
                obtain ⟨e23, E23, k1, k2⟩ := er23
                rw [hn] at e23 k2
                have hq := runQ_b (t := t) (n := n) (p := p) n2 (by first | decide | omega) (by first | decide | omega) h6
                rw [e23, E23]
                refine zW_m (ih (p := runQ t n p) (T := F 14 0 12 + 1) (by simp [zup3_v]; exact hn) (by simp [zup3_v]) (by first | decide | omega) (by first | decide | omega) (by first | decide | omega) (by first | decide | omega) ((tmB_fr k1 (by decide)).trans t2)) (fun r F' B' hh => ?_)
                obtain ⟨g1, g2, g3⟩ := hh
                refine ⟨?_, ?_, frG_t (frG_t (frG_u (frG_u frG_r (by decide) (by first | decide | omega)) (by decide) (by first | decide | omega)) (frG_f k1 (by decide))) (frG_m g3 (by first | decide | omega))⟩
                · rw [g1, zup3_2, lexF_r n2 (by first | decide | omega) (by first | decide | omega) hbl h6]
                  rw [show F 14 0 12 + 1 + ((lexF t n (runQ t n p)).length : Int) = F 14 0 12 + (((p, runQ t n p) :: lexF t n (runQ t n p)).length : Int) by rw [List.length_cons]; omega]
                · rw [lexF_r n2 (by first | decide | omega) (by first | decide | omega) hbl h6]
                  refine lexM_1 ?_ ?_ (tokQ_run hq.1 h6 k2.2.1 k2.2.2.1 k2.2.2.2) g3 g2
                  · rw [k2.1]; simp [tokK, h6]
                  · rw [k1 14 0 8 _ (by simp)]; simp [zup4_v]
theorem L_cut {K : Nat} {F : zF} {B : zB} {t : Int → Int} {n : Int} (hK : 3002 ≤ K) (hn : F 14 0 3 = n) (h0 : 0 ≤ n) (h2 : n ≤ 3000) (ht : tmB B = t) : zW (f_M_cut K F B) (fun _ F' B' => lexR t n 0 0 F B F' B') := by
  unfold f_M_cut
  refine zW_m (L_c7 hK h0 h2 (T := 0) (F := zup3 F 14 0 12 0) (by simp [zup3_v]; exact hn) (by simp [zup3_v]) (by first | decide | omega) (by first | decide | omega) (by first | decide | omega) (by first | decide | omega) ht) (fun r F' B' hh => ?_)
  obtain ⟨g1, g2, g3⟩ := hh
  exact ⟨by rw [g1, zup3_2], g2, g3⟩
end
end
section
section
/-! ===== the tokens of both sides, held against one another ===== -/
theorem nmv_dig {t : Int → Int} {p : Int} : ∀ {m : Nat}, (∀ j : Nat, j < m → 48 ≤ t (p + j) ∧ t (p + j) ≤ 57) → 0 ≤ nmv t 10 48 p m ∧ nmv t 10 48 p m < 10 ^ m := by
  intro m
  induction m with
  | zero => intro _; unfold nmv; exact ⟨(by first | decide | omega), by decide⟩
  | succ m ih =>
    intro h
    have i := ih (fun j hj => h j (by first | decide | omega))
    have k := h m (by first | decide | omega)
    have e : (10 : Int) ^ (m + 1) = 10 ^ m * 10 := Int.pow_succ 10 m
    unfold nmv
    rw [e]
    omega
theorem nmv_4 {t : Int → Int} {p s : Int} (h0 : 0 ≤ s) (h4 : s ≤ 4) (hc : cnt bDig t p s.toNat = s) : 0 ≤ nmv t 10 48 p s.toNat ∧ nmv t 10 48 p s.toNat ≤ 9999 := by
  have i := nmv_dig (t := t) (p := p) (m := s.toNat) (fun j hj => bDig_is (cnt_all (t := t) (p := p) bDig_b (m := s.toNat) (by first | decide | omega) hj))
  have e : (10 : Int) ^ s.toNat ≤ 10000 := by
    have : s = 0 ∨ s = 1 ∨ s = 2 ∨ s = 3 ∨ s = 4 := by omega
    rcases this with rfl | rfl | rfl | rfl | rfl <;> decide
  omega
/-- token j of N is the same on both sides -/
def NZb (w : Int) : Prop := ∀ k : Nat, 0 < w / 256 ^ k → ¬ w / 256 ^ k % 256 = 0
def TKj (B Bm : zB) (N j : Int) : Prop :=
  B 10 0 5 j = Bm 14 0 7 j ∧ B 10 0 6 j = Bm 14 0 8 j ∧ (0 ≤ Bm 14 0 7 j ∧ Bm 14 0 7 j ≤ 5) ∧ (Bm 14 0 7 j = 0 ↔ j = N) ∧
  (Bm 14 0 7 j = 2 → B 10 0 7 j = 8 * Bm 14 0 9 j + Bm 14 0 10 j + 2 ∧ 0 ≤ Bm 14 0 9 j ∧ Bm 14 0 9 j ≤ 62 ∧ -2 ≤ Bm 14 0 10 j ∧ Bm 14 0 10 j ≤ 2) ∧
  (Bm 14 0 7 j = 3 → B 10 0 7 j = Bm 14 0 9 j ∧ B 10 0 7 j ≤ 9999) ∧
  (Bm 14 0 7 j = 4 → B 10 0 7 j = Bm 14 0 11 j ∧ 0 < B 10 0 7 j ∧ NZb (B 10 0 7 j)) ∧
  (Bm 14 0 7 j = 5 → B 10 0 7 j = Bm 14 0 9 j ∧ B 10 0 7 j < 256) ∧
  (0 ≤ B 10 0 7 j ∧ B 10 0 7 j < 9223372036854775808) ∧ (0 ≤ Bm 14 0 8 j ∧ Bm 14 0 8 j ≤ 3000) ∧
  (j < N → Bm 14 0 8 j + (if Bm 14 0 7 j = 2 then 2 else 1) ≤ Bm 14 0 8 (j + 1))
theorem tokK_r {t : Int → Int} {a : Int × Int} : 1 ≤ tokK t a ∧ tokK t a ≤ 5 := by
  unfold tokK
  split
  · split <;> omega
  · have := runK_r t a.1 (a.2 - a.1); omega
theorem tokV_s {t : Int → Int} {p q : Int} (hb : ∀ y, 0 ≤ t y ∧ t y < 256) (h : bRun (t p) = 0) : tokV t (p, q) = t p ∧ (tokK t (p, q) = 1 ∨ tokK t (p, q) = 5) := by
  unfold tokV tokK
  simp only [h, if_true]
  refine ⟨trivial, ?_⟩
  split <;> simp
theorem nmv_nz {t : Int → Int} {p : Int} : ∀ (m : Nat), (∀ j : Nat, j < m → 97 ≤ t (p + j) ∧ t (p + j) ≤ 122) → NZb (nmv t 256 0 p m)
  | 0, _ => fun k z => by
    rw [show nmv t 256 0 p 0 = 0 from rfl, Int.zero_ediv] at z
    exact absurd z (by decide)
  | m + 1, h => fun k z => by
    have i := nmv_nz m (fun j hj => h j (by first | decide | omega))
    have b := h m (by first | decide | omega)
    have e : nmv t 256 0 p (m + 1) = nmv t 256 0 p m * 256 + t (p + m) - 0 := rfl
    rw [e] at z ⊢
    cases k with
    | zero => rw [Int.pow_zero, Int.ediv_one]; omega
    | succ k =>
      have d : ∀ x : Int, x / 256 ^ (k + 1) = x / 256 / 256 ^ k := fun x => by rw [Int.ediv_ediv_of_nonneg (by first | decide | omega), Int.pow_succ, Int.mul_comm]
      have f : (nmv t 256 0 p m * 256 + t (p + m) - 0) / 256 = nmv t 256 0 p m := by omega
      rw [d, f] at z ⊢
      exact i k z
theorem tokV_r {t : Int → Int} {p q : Int} (hp : p < q) (h : ¬ bRun (t p) = 0) : tokK t (p, q) ≠ 5 ∧ (tokK t (p, q) = 2 → p + 2 ≤ q ∧ 0 ≤ tokV t (p, q) ∧ tokV t (p, q) ≤ 600) ∧ (tokK t (p, q) = 3 → 0 ≤ tokV t (p, q) ∧ tokV t (p, q) ≤ 9999) ∧ (tokK t (p, q) = 4 → 0 < tokV t (p, q) ∧ tokV t (p, q) < 9223372036854775808 ∧ NZb (tokV t (p, q))) ∧ (tokK t (p, q) = 1 → tokV t (p, q) = 0) := by
  have hk : tokK t (p, q) = runK t p (q - p) := by simp [tokK, h]
  have hv : tokV t (p, q) = runV t p q := by simp [tokV, h]
  have r := runK_r t p (q - p)
  rw [hk, hv]
  refine ⟨(by first | decide | omega), fun z => ?_, fun z => ?_, fun z => ?_, fun z => ?_⟩
  · have k := pitS_k (runK_2 z)
    rw [show p + (q - p) - 1 = q - 1 by omega] at k
    have hA : -2 ≤ pitA t p (q - p) ∧ pitA t p (q - p) ≤ 2 := by unfold pitA; split <;> omega
    have hV : 0 ≤ pitV t p q ∧ pitV t p q ≤ 62 := by unfold pitV; omega
    have hR : runV t p q = 8 * pitV t p q + pitA t p (q - p) + 2 := by unfold runV; rw [if_pos z]
    omega
  · have k := runK_3 z
    have := nmv_4 (t := t) (p := p) (s := q - p) (by first | decide | omega) k.2 k.1
    have hR : runV t p q = nmv t 10 48 p (q - p).toNat := by unfold runV; rw [z, if_neg (by decide), if_pos rfl]
    omega
  · have k := runK_4 z
    have e := wrd_e (t := t) (p := p) (m := (q - p).toNat) (by first | decide | omega) (fun j hj => bLet_is (cnt_all (t := t) (p := p) bLet_b (m := (q - p).toNat) (by first | decide | omega) hj))
    have hR : runV t p q = nmv t 256 0 p (q - p).toNat := by unfold runV; rw [z, if_neg (by decide), if_neg (by decide), if_pos rfl]
    have := e.2.2.1 (by first | decide | omega)
    rw [hR]
    exact ⟨(by first | decide | omega), (by first | decide | omega), nmv_nz _ (fun j hj => bLet_is (cnt_all (t := t) (p := p) bLet_b (m := (q - p).toNat) (by first | decide | omega) hj))⟩
  · unfold runV; rw [z, if_neg (by decide), if_neg (by decide), if_neg (by decide)]
theorem TK_1 {t : Int → Int} {n p q : Int} {B Bm : zB} {N T : Int} (hb : ∀ y, 0 ≤ t y ∧ t y < 256) (hn : n ≤ 3000) (h0 : 0 ≤ p) (hp : p < q) (hq : q ≤ n) (hs : bRun (t p) = 0 → q = p + 1) (hT : T < N) (c5 : B 10 0 5 T = tokK t (p, q)) (c6 : B 10 0 6 T = p) (c7 : B 10 0 7 T = tokV t (p, q)) (m7 : Bm 14 0 7 T = tokK t (p, q)) (m8 : Bm 14 0 8 T = p) (mq : tokQ t (p, q) (Bm 14 0 9 T) (Bm 14 0 10 T) (Bm 14 0 11 T)) (hx : q ≤ Bm 14 0 8 (T + 1)) : TKj B Bm N T := by
  obtain ⟨q3, q4, q2, q5⟩ := mq
  have r := tokK_r (t := t) (a := (p, q))
  unfold TKj
  rw [m7, c5, c6, m8, c7]
  by_cases h : bRun (t p) = 0
  · have e := tokV_s (q := q) hb h
    have b := hb p
    have hq1 := hs h
    have n2 : ¬ tokK t (p, q) = 2 := by omega
    refine ⟨rfl, rfl, (by first | decide | omega), ⟨fun z => (by first | decide | omega), fun z => (by first | decide | omega)⟩, fun z => (by first | decide | omega), fun z => (by first | decide | omega), fun z => (by first | decide | omega), fun z => ⟨(q5 z).symm, (by first | decide | omega)⟩, (by first | decide | omega), (by first | decide | omega), fun _ => ?_⟩
    rw [if_neg n2]; omega
  · obtain ⟨e5, e2, e3, e4, e1⟩ := tokV_r hp h
    refine ⟨rfl, rfl, (by first | decide | omega), ⟨fun z => (by first | decide | omega), fun z => (by first | decide | omega)⟩, fun z => ⟨(q2 z).1.symm, (q2 z).2⟩, fun z => ⟨(q3 z).symm, (e3 z).2⟩, fun z => ⟨(q4 z).symm, (e4 z).1, (e4 z).2.2⟩, fun z => absurd z e5, ?_, (by first | decide | omega), fun _ => ?_⟩
    · by_cases k2 : tokK t (p, q) = 2
      · have := e2 k2; omega
      · by_cases k3 : tokK t (p, q) = 3
        · have := e3 k3; omega
        · by_cases k4 : tokK t (p, q) = 4
          · have := e4 k4; omega
          · have := e1 (by first | decide | omega); omega
    · split
      · rename_i k2; have := e2 k2; omega
      · omega
theorem TK_L {t : Int → Int} {n : Int} {B Bm : zB} {N : Int} (hb : ∀ y, 0 ≤ t y ∧ t y < 256) (hn : n ≤ 3000) : ∀ {f : Nat} {p T : Int}, 0 ≤ p → p ≤ n → n - p < f → lexC t n (lexL t n f p) T B → lexM t n (lexL t n f p) T Bm → N = T + (lexL t n f p).length → (∀ j, T ≤ j → j ≤ N → TKj B Bm N j) ∧ p ≤ Bm 14 0 8 T := by
  intro f
  induction f with
  | zero => intro p T _ _ h; omega
  | succ f ih =>
    intro p T h0 hp hf hc hm hN
    unfold lexL at hc hm hN
    by_cases h : n ≤ p
    · rw [if_pos h] at hc hm hN
      obtain ⟨c5, c6, c7⟩ := hc
      obtain ⟨m7, m8⟩ := hm
      have hNT : N = T := by rw [hN]; simp
      refine ⟨fun j a b => ?_, (by first | decide | omega)⟩
      have : j = T := by omega
      subst this
      unfold TKj
      rw [m7, c5, c6, m8, c7]
      refine ⟨rfl, rfl, (by first | decide | omega), ⟨fun _ => hNT.symm, fun _ => rfl⟩, fun z => (by first | decide | omega), fun z => (by first | decide | omega), fun z => (by first | decide | omega), fun z => (by first | decide | omega), (by first | decide | omega), (by first | decide | omega), fun z => (by first | decide | omega)⟩
    · rw [if_neg h] at hc hm hN
      by_cases bl : bBlank (t p) = 0
      · rw [if_pos bl] at hc hm hN
        by_cases hr : bRun (t p) = 0
        · rw [if_pos hr] at hc hm hN
          obtain ⟨c5, c6, c7, hc'⟩ := hc
          obtain ⟨m7, m8, mq, hm'⟩ := hm
          rw [List.length_cons] at hN
          obtain ⟨i1, i2⟩ := ih (p := p + 1) (T := T + 1) (by first | decide | omega) (by first | decide | omega) (by first | decide | omega) hc' hm' (by first | decide | omega)
          refine ⟨fun j a b => ?_, by rw [m8]; exact Int.le_refl _⟩
          by_cases hj : j = T
          · subst hj
            exact TK_1 hb hn h0 (by first | decide | omega) (by first | decide | omega) (fun _ => rfl) (by first | decide | omega) c5 c6 c7 m7 m8 mq i2
          · exact i1 j (by first | decide | omega) b
        · have hq := runQ_b (t := t) hn h0 h hr
          rw [if_neg hr] at hc hm hN
          obtain ⟨c5, c6, c7, hc'⟩ := hc
          obtain ⟨m7, m8, mq, hm'⟩ := hm
          rw [List.length_cons] at hN
          obtain ⟨i1, i2⟩ := ih (p := runQ t n p) (T := T + 1) (by first | decide | omega) (by first | decide | omega) (by first | decide | omega) hc' hm' (by first | decide | omega)
          refine ⟨fun j a b => ?_, by rw [m8]; exact Int.le_refl _⟩
          by_cases hj : j = T
          · subst hj
            exact TK_1 hb hn h0 hq.1 (by first | decide | omega) (fun z => absurd z hr) (by first | decide | omega) c5 c6 c7 m7 m8 mq i2
          · exact i1 j (by first | decide | omega) b
      · rw [if_neg bl] at hc hm hN
        obtain ⟨i1, i2⟩ := ih (p := p + 1) (T := T) (by first | decide | omega) (by first | decide | omega) (by first | decide | omega) hc hm hN
        exact ⟨i1, (by first | decide | omega)⟩
def TK (B Bm : zB) (N : Int) : Prop := 0 ≤ N ∧ N ≤ 3000 ∧ ∀ j, 0 ≤ j → j ≤ N → TKj B Bm N j
theorem lexL_len {t : Int → Int} {n : Int} (hn : n ≤ 3000) : ∀ {f : Nat} {p : Int}, 0 ≤ p → p ≤ n → ((lexL t n f p).length : Int) ≤ n - p := by
  intro f
  induction f with
  | zero => intro p _ _; show ((0 : Nat) : Int) ≤ _; omega
  | succ f ih =>
    intro p h0 hp
    unfold lexL
    by_cases h : n ≤ p
    · rw [if_pos h]; show ((0 : Nat) : Int) ≤ _; omega
    · rw [if_neg h]
      by_cases bl : bBlank (t p) = 0
      · rw [if_pos bl]
        by_cases hr : bRun (t p) = 0
        · rw [if_pos hr, List.length_cons]
          have := ih (p := p + 1) (by first | decide | omega) (by first | decide | omega)
          omega
        · have hq := runQ_b (t := t) hn h0 h hr
          rw [if_neg hr, List.length_cons]
          have := ih (p := runQ t n p) (by first | decide | omega) (by first | decide | omega)
          omega
      · rw [if_neg bl]
        have := ih (p := p + 1) (by first | decide | omega) (by first | decide | omega)
        omega
theorem TK_of {t : Int → Int} {n : Int} {B Bm : zB} (hb : ∀ y, 0 ≤ t y ∧ t y < 256) (h0 : 0 ≤ n) (hn : n ≤ 3000) (hc : lexC t n (lexF t n 0) 0 B) (hm : lexM t n (lexF t n 0) 0 Bm) : TK B Bm (lexF t n 0).length := by
  have hl := lexL_len (t := t) hn (f := 3002) (p := 0) (by first | decide | omega) h0
  refine ⟨(by first | decide | omega), ?_, (TK_L hb hn (f := 3002) (p := 0) (T := 0) (by first | decide | omega) h0 (by first | decide | omega) hc hm (by show _ = 0 + ((lexF t n 0).length : Int); omega)).1⟩
  show ((lexL t n 3002 0).length : Int) ≤ 3000
  omega
end
end
section
section
/-! ===== the class's smallest steps over tokens, exactly ===== -/
theorem zcmp_0 {a b : Int} : zcmp a b = 0 ↔ a = b := by
  unfold zcmp
  split
  · exact ⟨fun z => (by first | decide | omega), fun z => (by first | decide | omega)⟩
  · split
    · exact ⟨fun _ => by assumption, fun _ => rfl⟩
    · exact ⟨fun z => (by first | decide | omega), fun z => by contradiction⟩
theorem zcmp_lt {a b : Int} : zcmp a b < 0 ↔ a < b := by
  unfold zcmp
  split
  · exact ⟨fun _ => by assumption, fun _ => by decide⟩
  · split
    · exact ⟨fun z => (by first | decide | omega), fun z => (by first | decide | omega)⟩
    · exact ⟨fun z => (by first | decide | omega), fun z => (by first | decide | omega)⟩
theorem zcmp_g {a b : Int} : 0 < zcmp a b ↔ b < a := by
  unfold zcmp
  split
  · exact ⟨fun z => (by first | decide | omega), fun z => (by first | decide | omega)⟩
  · split
    · exact ⟨fun z => (by first | decide | omega), fun z => (by first | decide | omega)⟩
    · exact ⟨fun _ => (by first | decide | omega), fun _ => by decide⟩
/-- what the class's parser stands on -/
def CX (K : zK) (F : zF) (B : zB) : Prop := 0 < K.2 3 ∧ 0 < K.2 10 ∧ F 3 0 11 = 0 ∧ (0 ≤ F 10 0 0 ∧ F 10 0 0 ≤ 5) ∧ (0 ≤ F 10 0 2 ∧ F 10 0 2 < 9223372036854775808) ∧ (0 ≤ F 10 0 8 ∧ F 10 0 8 < 3001) ∧ (∀ j, r32 (B 10 0 5 j)) ∧ 3002 ≤ K.1
def sgn (F : zF) (c : Int) : Int := if F 10 0 0 = 5 ∧ F 10 0 2 = c then 1 else 0
def wdn (F : zF) (c : Int) : Int := if F 10 0 0 = 4 ∧ F 10 0 2 = c then 1 else 0
theorem sgn_0 {F : zF} {c : Int} : sgn F c = 0 ↔ ¬ (F 10 0 0 = 5 ∧ F 10 0 2 = c) := by unfold sgn; split <;> simp_all
theorem wdn_0 {F : zF} {c : Int} : wdn F c = 0 ↔ ¬ (F 10 0 0 = 4 ∧ F 10 0 2 = c) := by unfold wdn; split <;> simp_all
theorem sgn_r (F : zF) (c : Int) : sgn F c = 0 ∨ sgn F c = 1 := by unfold sgn; split <;> simp
theorem wdn_r (F : zF) (c : Int) : wdn F c = 0 ∨ wdn F c = 1 := by unfold wdn; split <;> simp
theorem C_isSign {K : zK} {F : zF} {B : zB} {c : Int} (h : CX K F B) (hc : r32 c) : f_Tokens_isSign K 0 c F B = some (sgn F c, F, B) := by
  obtain ⟨k3, k10, e11, hk, hv, hx, h5, hK⟩ := h
  unfold f_Tokens_isSign f_Tokens_isSign_22 f_Tokens_isSign_23 sgn
  rw [if_pos ⟨(by first | decide | omega), k10⟩, if_pos (by first | decide | omega)]
  by_cases a : F 10 0 0 = 5
  · rw [if_pos a, if_pos hc, if_pos (by first | decide | omega), if_pos (by first | decide | omega)]
    by_cases b : F 10 0 2 = c
    · rw [if_pos (zcmp_0.mpr b), if_pos (by decide), if_pos ⟨a, b⟩]
    · rw [if_neg (fun z => b (zcmp_0.mp z)), if_pos (by decide), if_neg (fun z => b z.2)]
  · rw [if_neg a, if_pos (by decide), if_neg (fun z => a z.1)]
theorem C_isWord {K : zK} {F : zF} {B : zB} {c : Int} (h : CX K F B) (hc : r64 c) : f_Tokens_isWord K 0 c F B = some (wdn F c, F, B) := by
  obtain ⟨k3, k10, e11, hk, hv, hx, h5, hK⟩ := h
  unfold f_Tokens_isWord f_Tokens_isWord_21 f_Tokens_isWord_22 wdn
  rw [if_pos ⟨(by first | decide | omega), k10⟩, if_pos (by first | decide | omega)]
  by_cases a : F 10 0 0 = 4
  · rw [if_pos a, if_pos (by first | decide | omega), if_pos hc]
    by_cases b : F 10 0 2 = c
    · rw [if_pos (zcmp_0.mpr b), if_pos (by decide), if_pos ⟨a, b⟩]
    · rw [if_neg (fun z => b (zcmp_0.mp z)), if_pos (by decide), if_neg (fun z => b z.2)]
  · rw [if_neg a, if_pos (by decide), if_neg (fun z => a z.1)]
def refF (F : zF) (s : Int) : zF := zup3 F 3 0 21 ((if F 10 0 0 = 1 then 1 else s) + 16 * F 10 0 1)
theorem C_refuse {K : zK} {F : zF} {B : zB} {s : Int} (h : CX K F B) : f_Parser_refuse K 0 s F B = some (0, refF F s, B) := by
  obtain ⟨k3, k10, e11, hk, hv, hx, h5, hK⟩ := h
  unfold f_Parser_refuse f_Parser_refuse_17 refF
  rw [e11, if_pos ⟨(by first | decide | omega), k3⟩, if_pos ⟨(by first | decide | omega), k10⟩, if_pos (by first | decide | omega)]
  by_cases a : F 10 0 0 = 1
  · rw [if_pos a, if_pos ⟨(by first | decide | omega), k3⟩, if_pos ⟨(by first | decide | omega), k10⟩, if_pos ⟨(by first | decide | omega), k3⟩, if_pos a]
  · rw [if_neg a, if_pos ⟨(by first | decide | omega), k3⟩, if_pos ⟨(by first | decide | omega), k10⟩, if_pos ⟨(by first | decide | omega), k3⟩, if_neg a]
theorem C_adv {K : zK} {F : zF} {B : zB} (h : CX K F B) : f_Tokens_advance K 0 F B = some (0, advF F B, B) := by
  obtain ⟨k3, k10, e11, hk, hv, hx, h5, hK⟩ := h
  exact C_advance k10 hx.1 hx.2 (h5 _)
theorem CX_u {K : zK} {F : zF} {B : zB} {k : Nat} {v : Int} (h : CX K F B) (hk : k ≠ 11) : CX K (zup3 F 3 0 k v) B := by
  unfold CX at *
  simp only [zup3_v]
  rw [if_neg (fun z => hk z.2.2.symm)]
  simpa using h
theorem C_takeSign {K : zK} {F : zF} {B : zB} {c : Int} (h : CX K F B) (hc : r32 c) : f_Parser_takeSign K 0 c F B = if sgn F c = 0 then some (0, refF F 2, B) else some (1, advF F B, B) := by
  have s := sgn_r F c
  have i := C_isSign h hc
  have r := C_refuse (s := 2) h
  have a := C_adv h
  obtain ⟨k3, k10, e11, hk, hv, hx, h5, hK⟩ := h
  unfold f_Parser_takeSign
  rw [e11, if_pos ⟨(by first | decide | omega), k3⟩, if_pos ⟨(by first | decide | omega), k10⟩, i]
  simp only [zb_s]
  rw [if_pos (by first | decide | omega)]
  by_cases z : sgn F c = 0
  · rw [if_pos z, if_pos z, r]
    rfl
  · rw [if_neg z, if_neg z, e11, if_pos ⟨(by first | decide | omega), k10⟩, a]
    rfl
theorem C_takeClosing {K : zK} {F : zF} {B : zB} {c : Int} (h : CX K F B) (hc : r32 c) : f_Parser_takeClosing K 0 c F B = if sgn F c = 0 then some (0, refF (zup3 F 3 0 18 (F 3 0 18 - 1)) 2, B) else some (1, advF (zup3 F 3 0 18 (F 3 0 18 - 1)) B, B) := by
  have i := C_takeSign (CX_u (k := 18) (v := F 3 0 18 - 1) h (by decide)) hc
  have e : sgn (zup3 F 3 0 18 (F 3 0 18 - 1)) c = sgn F c := by simp [sgn, zup3_v]
  rw [e] at i
  unfold f_Parser_takeClosing
  rw [if_pos ⟨(by first | decide | omega), h.1⟩, i]
  by_cases z : sgn F c = 0
  · rw [if_pos z]; rfl
  · rw [if_neg z]; rfl
theorem C_takeOpening {K : zK} {F : zF} {B : zB} {c : Int} (h : CX K F B) (hc : r32 c) (hd : 0 ≤ F 3 0 18 ∧ F 3 0 18 ≤ 8) : f_Parser_takeOpening K 0 c F B = if sgn F c = 0 then some (0, refF F 2, B) else if F 3 0 18 = 8 then some (0, refF F 3, B) else some (1, advF (zup3 F 3 0 18 (F 3 0 18 + 1)) B, B) := by
  have s := sgn_r F c
  have i := C_isSign h hc
  have r := C_refuse (s := 2) h
  have r3 := C_refuse (s := 3) h
  have a := C_adv (CX_u (k := 18) (v := F 3 0 18 + 1) h (by decide))
  obtain ⟨k3, k10, e11, hk, hv, hx, h5, hK⟩ := h
  unfold f_Parser_takeOpening
  rw [e11, if_pos ⟨(by first | decide | omega), k3⟩, if_pos ⟨(by first | decide | omega), k10⟩, i]
  simp only [zb_s]
  rw [if_pos (by first | decide | omega)]
  by_cases z : sgn F c = 0
  · rw [if_pos z, if_pos z, r]
    rfl
  · rw [if_neg z, if_neg z, if_pos (by first | decide | omega)]
    by_cases y : F 3 0 18 = 8
    · rw [if_neg (by first | decide | omega), if_pos y, r3]; rfl
    · rw [if_pos (by first | decide | omega), if_neg y, e11, if_pos ⟨(by first | decide | omega), k10⟩, a]; rfl
/-- is a number a power of two, as bits count -/
def pw2 (v : Int) : Prop := v = 1 ∨ v = 2 ∨ v = 4 ∨ v = 8 ∨ v = 16 ∨ v = 32
theorem bitC {K : zK} {F : zF} {B : zB} : ∀ v : Fin 33, ∃ r, f_Long_bitCount K (v.val : Int) F B = some (r, F, B) ∧ r32 r ∧ (r = 1 ↔ pw2 (v.val : Int)) := by
  intro v
  unfold f_Long_bitCount
  refine ⟨_, rfl, ?_⟩
  revert v
  unfold pw2 r32
  decide +kernel
end
end
section
section
/-! ===== the reference's smallest steps over tokens, exactly ===== -/
def MX (F : zF) (B : zB) (j : Int) : Prop := F 14 0 16 = j ∧ (0 ≤ j ∧ j ≤ 3000) ∧ (0 ≤ B 14 0 7 j ∧ B 14 0 7 j ≤ 5) ∧ (B 14 0 7 j = 5 ∨ B 14 0 7 j = 3 → 0 ≤ B 14 0 9 j ∧ B 14 0 9 j ≤ 9999) ∧ (B 14 0 7 j = 4 → 0 < B 14 0 11 j ∧ B 14 0 11 j < 9223372036854775808)
def sgm (B : zB) (j c : Int) : Int := if B 14 0 7 j = 5 ∧ B 14 0 9 j = c then 1 else 0
def wdm (B : zB) (j c : Int) : Int := if B 14 0 7 j = 4 ∧ B 14 0 11 j = c then 1 else 0
theorem sgm_0 {B : zB} {j c : Int} : sgm B j c = 0 ↔ ¬ (B 14 0 7 j = 5 ∧ B 14 0 9 j = c) := by unfold sgm; split <;> simp_all
theorem wdm_0 {B : zB} {j c : Int} : wdm B j c = 0 ↔ ¬ (B 14 0 7 j = 4 ∧ B 14 0 11 j = c) := by unfold wdm; split <;> simp_all
theorem sgm_r (B : zB) (j c : Int) : sgm B j c = 0 ∨ sgm B j c = 1 := by unfold sgm; split <;> simp
theorem wdm_r (B : zB) (j c : Int) : wdm B j c = 0 ∨ wdm B j c = 1 := by unfold wdm; split <;> simp
theorem L_good {K : Nat} {F : zF} {B : zB} (h : F 14 0 17 = 0) : f_M_good K F B = some (1, F, B) := by
  unfold f_M_good f_M_good_12
  rw [if_pos (by first | decide | omega), if_pos h, if_pos (by decide)]
def bad (F : zF) : Prop := 1 ≤ F 14 0 17 ∧ F 14 0 17 ≤ 15
theorem L_goodB {K : Nat} {F : zF} {B : zB} (h : bad F) : f_M_good K F B = some (0, F, B) := by
  unfold bad at h
  unfold f_M_good f_M_good_12
  rw [if_pos (by first | decide | omega), if_neg (by first | decide | omega), if_pos (by decide)]
theorem L_isSign {K : Nat} {F : zF} {B : zB} {j c : Int} (h : MX F B j) (hc : r32 c) : f_M_isSign K c F B = some (sgm B j c, F, B) := by
  obtain ⟨rfl, h0, hk, hv, hw⟩ := h
  unfold f_M_isSign f_M_isSign_30 f_M_isSign_31 sgm
  rw [if_pos (by first | decide | omega), if_pos (by first | decide | omega)]
  by_cases a : B 14 0 7 (F 14 0 16) = 5
  · have v := hv (Or.inl a)
    rw [if_pos a, if_pos (by first | decide | omega), if_pos hc]
    by_cases b : B 14 0 9 (F 14 0 16) = c
    · rw [if_pos b, if_pos (by decide), if_pos ⟨a, b⟩]
    · rw [if_neg b, if_pos (by decide), if_neg (fun z => b z.2)]
  · rw [if_neg a, if_pos (by decide), if_neg (fun z => a z.1)]
theorem L_isWord {K : Nat} {F : zF} {B : zB} {j c : Int} (h : MX F B j) (hc : r64 c) : f_M_isWord K c F B = some (wdm B j c, F, B) := by
  obtain ⟨rfl, h0, hk, hv, hw⟩ := h
  unfold f_M_isWord f_M_isWord_31 f_M_isWord_32 wdm
  rw [if_pos (by first | decide | omega), if_pos (by first | decide | omega)]
  by_cases a : B 14 0 7 (F 14 0 16) = 4
  · have v := hw a
    rw [if_pos a, if_pos (by first | decide | omega), if_pos hc]
    by_cases b : B 14 0 11 (F 14 0 16) = c
    · rw [if_pos (zcmp_0.mpr b), if_pos (by decide), if_pos ⟨a, b⟩]
    · rw [if_neg (fun z => b (zcmp_0.mp z)), if_pos (by decide), if_neg (fun z => b z.2)]
  · rw [if_neg a, if_pos (by decide), if_neg (fun z => a z.1)]
def errM (F : zF) (B : zB) (s : Int) : zF := zup3 (zup3 F 14 0 17 s) 14 0 18 (B 14 0 8 (F 14 0 16))
theorem L_fail {K : Nat} {F : zF} {B : zB} {s : Int} (h : F 14 0 17 = 0) (h0 : 0 ≤ F 14 0 16 ∧ F 14 0 16 ≤ 3000) : f_M_fail K s F B = some (0, errM F B s, B) := by
  unfold f_M_fail f_M_failAt errM
  rw [if_pos (by first | decide | omega), if_pos (by first | decide | omega), if_pos (by first | decide | omega)]
  rfl
theorem L_failB {K : Nat} {F : zF} {B : zB} {s : Int} (h : bad F) : f_M_fail K s F B = some (0, F, B) := by
  unfold bad at h
  unfold f_M_fail f_M_failAt
  rw [if_pos (by first | decide | omega), if_neg (by first | decide | omega)]
  rfl
def wr (B : zB) (j : Int) : Int := if B 14 0 7 j = 1 then 1 else 2
theorem L_wrong {K : Nat} {F : zF} {B : zB} {j : Int} (h : F 14 0 17 = 0) (hm : MX F B j) : f_M_wrong K F B = some (0, errM F B (wr B j), B) := by
  obtain ⟨rfl, h0, hk, hv, hw⟩ := hm
  unfold f_M_wrong f_M_wrong_19 wr
  rw [if_pos (by first | decide | omega), if_pos (by first | decide | omega)]
  by_cases a : B 14 0 7 (F 14 0 16) = 1
  · rw [if_pos a, if_pos a, L_fail h h0]; rfl
  · rw [if_neg a, if_neg a, L_fail h h0]; rfl
theorem L_wrongB {K : Nat} {F : zF} {B : zB} {j : Int} (h : bad F) (hm : MX F B j) : f_M_wrong K F B = some (0, F, B) := by
  obtain ⟨rfl, h0, hk, hv, hw⟩ := hm
  unfold f_M_wrong f_M_wrong_19
  rw [if_pos (by first | decide | omega), if_pos (by first | decide | omega), L_failB h, L_failB h]
  by_cases a : B 14 0 7 (F 14 0 16) = 1
  · rw [if_pos a]; rfl
  · rw [if_neg a]; rfl
theorem L_need {K : Nat} {F : zF} {B : zB} {j c : Int} (h : F 14 0 17 = 0) (hm : MX F B j) (hc : r32 c) : f_M_need K c F B = if sgm B j c = 0 then some (0, errM F B (wr B j), B) else some (0, zup3 F 14 0 16 (j + 1), B) := by
  have s := sgm_r B j c
  unfold f_M_need f_M_need_33
  rw [L_good h]
  simp only [zb_s]
  rw [if_pos (by decide), if_neg (by decide), L_isSign hm hc]
  simp only [zb_s]
  rw [if_pos (by first | decide | omega), L_wrong h hm, hm.1]
  rfl
theorem L_needB {K : Nat} {F : zF} {B : zB} {c : Int} (h : bad F) : f_M_need K c F B = some (0, F, B) := by
  unfold f_M_need
  rw [L_goodB h]
  simp only [zb_s]
  rw [if_pos (by decide), if_pos (by decide)]
theorem L_opening {K : Nat} {F : zF} {B : zB} {j c : Int} (h : F 14 0 17 = 0) (hm : MX F B j) (hc : r32 c) (hd : 0 ≤ F 14 0 19 ∧ F 14 0 19 ≤ 8) : f_M_opening K c F B = if sgm B j c = 0 then some (0, errM F B (wr B j), B) else if F 14 0 19 = 8 then some (0, errM F B 3, B) else some (0, zup3 (zup3 F 14 0 19 (F 14 0 19 + 1)) 14 0 16 (j + 1), B) := by
  have s := sgm_r B j c
  unfold f_M_opening f_M_opening_60
  rw [L_good h]
  simp only [zb_s]
  rw [if_pos (by decide), if_neg (by decide), L_isSign hm hc]
  simp only [zb_s]
  have l3 := L_fail (K := K) (F := F) (B := B) (s := 3) h (by have := hm.1; have := hm.2.1; omega)
  rw [if_pos (by first | decide | omega)]
  by_cases a : sgm B j c = 0
  · rw [if_pos a, if_pos a, L_wrong h hm]; rfl
  · rw [if_neg a, if_neg a, if_pos (by first | decide | omega), l3, hm.1]; rfl
theorem L_openingB {K : Nat} {F : zF} {B : zB} {c : Int} (h : bad F) : f_M_opening K c F B = some (0, F, B) := by
  unfold f_M_opening
  rw [L_goodB h]
  simp only [zb_s]
  rw [if_pos (by decide), if_pos (by decide)]
theorem MX_row {F : zF} {B : zB} {j : Int} {k : Nat} {x v : Int} (h : MX F B j) (h7 : k ≠ 7) (h9 : k ≠ 9) (h11 : k ≠ 11) : MX F (zup4 B 14 0 k x v) j := by
  unfold MX at *
  simp only [zup4_v]
  rw [if_neg (fun z => h7 z.2.2.1.symm), if_neg (fun z => h9 z.2.2.1.symm), if_neg (fun z => h11 z.2.2.1.symm)]
  exact h
theorem L_closing {K : Nat} {F : zF} {B : zB} {j c fr : Int} (h : F 14 0 17 = 0) (hm : MX F B j) (hc : r32 c) (hf : 0 ≤ fr ∧ fr ≤ 3000) : f_M_closing K fr c F B = if sgm B j c = 0 then some (0, zup3 (errM F B (wr B j)) 14 0 19 (F 14 0 19 - 1), zup4 B 14 0 30 fr j) else some (0, zup3 (zup3 F 14 0 16 (j + 1)) 14 0 19 (F 14 0 19 - 1), zup4 B 14 0 30 fr j) := by
  have s := sgm_r B j c
  have e1 : sgm (zup4 B 14 0 30 fr j) j c = sgm B j c := by simp [sgm, zup4_v]
  have e2 : wr (zup4 B 14 0 30 fr j) j = wr B j := by simp [wr, zup4_v]
  have e3 : errM F (zup4 B 14 0 30 fr j) (wr B j) = errM F B (wr B j) := by simp [errM, zup4_v]
  have n := L_need (K := K) (c := c) h (MX_row (k := 30) (x := fr) (v := j) hm (by decide) (by decide) (by decide)) hc
  rw [e1, e2, e3] at n
  unfold f_M_closing
  rw [L_good h]
  simp only [zb_s]
  rw [if_pos (by decide), if_neg (by decide), if_pos (by first | decide | omega), hm.1, n]
  by_cases a : sgm B j c = 0
  · rw [if_pos a, if_pos a]
    simp only [zb_s]
    simp [errM, zup3_v]
  · rw [if_neg a, if_neg a]
    simp only [zb_s]
    simp [zup3_v]
theorem L_closingB {K : Nat} {F : zF} {B : zB} {c fr : Int} (h : bad F) : f_M_closing K fr c F B = some (0, F, B) := by
  unfold f_M_closing
  rw [L_goodB h]
  simp only [zb_s]
  rw [if_pos (by decide), if_pos (by decide)]
def nOK (v lo hi pw : Int) : Prop := lo ≤ v ∧ v ≤ hi ∧ (pw = 0 ∨ pw2 v)
theorem pw2_and : ∀ v : Fin 33, 1 ≤ v.val → (zand (v.val : Int) ((v.val : Int) - 1) = 0 ↔ pw2 (v.val : Int)) := by
  unfold pw2
  decide +kernel
theorem zand_r32 (a b : Int) : r32 (zand a b) := toI_r _
theorem L_number {K : Nat} {F : zF} {B : zB} {j lo hi pw : Int} (h : F 14 0 17 = 0) (hm : MX F B j) (hl : r32 lo) (hh : r32 hi) (hp : pw = 0 ∨ pw = 1 ∧ 1 ≤ lo ∧ hi ≤ 32) : (B 14 0 7 j = 3 → nOK (B 14 0 9 j) lo hi pw → f_M_number K lo hi pw F B = some (B 14 0 9 j, zup3 F 14 0 16 (j + 1), B)) ∧ (B 14 0 7 j = 3 → ¬ nOK (B 14 0 9 j) lo hi pw → f_M_number K lo hi pw F B = some (B 14 0 9 j, errM F B 5, B)) ∧ (¬ B 14 0 7 j = 3 → f_M_number K lo hi pw F B = some (0, errM F B (wr B j), B)) := by
  have w := L_wrong (K := K) h hm
  have f5 := L_fail (K := K) (F := F) (B := B) (s := 5) h (by have := hm.1; have := hm.2.1; omega)
  obtain ⟨rfl, h0, hk, hv, hw⟩ := hm
  unfold f_M_number f_M_number_65 f_M_number_73 f_M_number_83
  rw [L_good h]
  simp only [zb_s]
  rw [if_pos (by decide), if_neg (by decide), if_pos (by first | decide | omega), if_pos (by first | decide | omega), f5, w]
  simp only [zb_s]
  refine ⟨fun a n => ?_, fun a n => ?_, fun a => ?_⟩
  · have v := hv (Or.inr a)
    obtain ⟨n1, n2, n3⟩ := n
    rw [if_pos a, if_pos (by first | decide | omega), if_pos hl, if_neg (by first | decide | omega), if_pos hh, if_neg (by first | decide | omega), if_pos (by first | decide | omega)]
    rcases hp with rfl | ⟨rfl, p1, p2⟩
    · rw [if_pos rfl]
    · have b := pw2_and ⟨(B 14 0 9 (F 14 0 16)).toNat, (by first | decide | omega)⟩ (by show 1 ≤ (B 14 0 9 (F 14 0 16)).toNat; omega)
      rw [show (((⟨(B 14 0 9 (F 14 0 16)).toNat, (by first | decide | omega)⟩ : Fin 33).val : Nat) : Int) = B 14 0 9 (F 14 0 16) by show (((B 14 0 9 (F 14 0 16)).toNat : Nat) : Int) = _; omega] at b
      rw [if_neg (by decide), if_pos (zand_r32 _ _), if_pos (b.mpr (n3.resolve_left (by decide)))]
  · have v := hv (Or.inr a)
    rw [if_pos a, if_pos (by first | decide | omega), if_pos hl]
    by_cases n1 : B 14 0 9 (F 14 0 16) < lo
    · rw [if_pos n1]
    · rw [if_neg n1, if_pos hh]
      by_cases n2 : hi < B 14 0 9 (F 14 0 16)
      · rw [if_pos n2]
      · rw [if_neg n2, if_pos (by first | decide | omega)]
        rcases hp with rfl | ⟨rfl, p1, p2⟩
        · exact absurd ⟨(by first | decide | omega), (by first | decide | omega), Or.inl rfl⟩ n
        · have b := pw2_and ⟨(B 14 0 9 (F 14 0 16)).toNat, (by first | decide | omega)⟩ (by show 1 ≤ (B 14 0 9 (F 14 0 16)).toNat; omega)
          rw [show (((⟨(B 14 0 9 (F 14 0 16)).toNat, (by first | decide | omega)⟩ : Fin 33).val : Nat) : Int) = B 14 0 9 (F 14 0 16) by show (((B 14 0 9 (F 14 0 16)).toNat : Nat) : Int) = _; omega] at b
          rw [if_neg (by decide), if_pos (zand_r32 _ _), if_neg (fun z => n ⟨(by first | decide | omega), (by first | decide | omega), Or.inr (b.mp z)⟩)]
  · rw [if_neg a]
theorem L_numberB {K : Nat} {F : zF} {B : zB} {lo hi pw : Int} (h : bad F) : f_M_number K lo hi pw F B = some (0, F, B) := by
  unfold f_M_number
  rw [L_goodB h]
  simp only [zb_s]
  rw [if_pos (by decide), if_pos (by decide)]
def mkm (B : zB) (j : Int) : Int := if B 14 0 7 j = 5 then (if B 14 0 9 j = 126 then 1 else if B 14 0 9 j = 40 then 2 else if B 14 0 9 j = 41 then 4 else if B 14 0 9 j = 39 then 8 else if B 14 0 9 j = 94 then 16 else if B 14 0 9 j = 45 then 32 else if B 14 0 9 j = 37 then 64 else 0) else 0
theorem L_markHere {K : Nat} {F : zF} {B : zB} {j : Int} (hm : MX F B j) : f_M_markHere K F B = some (mkm B j, F, B) := by
  unfold f_M_markHere f_M_markHere_84
  have s126 := L_isSign (K := K) (c := 126) hm (by decide)
  have s40 := L_isSign (K := K) (c := 40) hm (by decide)
  have s41 := L_isSign (K := K) (c := 41) hm (by decide)
  have s39 := L_isSign (K := K) (c := 39) hm (by decide)
  have s94 := L_isSign (K := K) (c := 94) hm (by decide)
  have s45 := L_isSign (K := K) (c := 45) hm (by decide)
  have s37 := L_isSign (K := K) (c := 37) hm (by decide)
  simp only [zb_s, s126, s40, s41, s39, s94, s45, s37]
  unfold mkm sgm
  by_cases a : B 14 0 7 j = 5
  · simp only [a, true_and, if_true]
    by_cases b1 : B 14 0 9 j = 126
    · simp [b1] <;> decide
    · by_cases b2 : B 14 0 9 j = 40
      · simp [b2] <;> decide
      · by_cases b3 : B 14 0 9 j = 41
        · simp [b3] <;> decide
        · by_cases b4 : B 14 0 9 j = 39
          · simp [b4] <;> decide
          · by_cases b5 : B 14 0 9 j = 94
            · simp [b5] <;> decide
            · by_cases b6 : B 14 0 9 j = 45
              · simp [b6] <;> decide
              · by_cases b7 : B 14 0 9 j = 37
                · simp [b7] <;> decide
                · simp [b1, b2, b3, b4, b5, b6, b7] <;> decide
  · simp [a] <;> decide
end
end
section
section
/-! ===== words in tables ===== -/
def fiL : List Int → Int → Int → Int
  | [], _, _ => -1
  | a :: L, w, k => if a = w then k else fiL L w (k + 1)
theorem fiL_r {w : Int} : ∀ {L : List Int} {k : Int}, 0 ≤ k → (fiL L w k = -1 ∧ w ∉ L) ∨ (k ≤ fiL L w k ∧ fiL L w k < k + L.length ∧ w ∈ L) := by
  intro L
  induction L with
  | nil => intro k _; exact Or.inl ⟨rfl, by simp⟩
  | cons a L ih =>
    intro k hk
    unfold fiL
    by_cases h : a = w
    · rw [if_pos h]
      refine Or.inr ⟨Int.le_refl _, by rw [List.length_cons]; omega, by rw [h]; simp⟩
    · rw [if_neg h]
      rcases ih (k := k + 1) (by first | decide | omega) with ⟨x, y⟩ | ⟨x, y, z⟩
      · exact Or.inl ⟨x, by simp only [List.mem_cons, not_or]; exact ⟨fun q => h q.symm, y⟩⟩
      · exact Or.inr ⟨(by first | decide | omega), by rw [List.length_cons]; omega, by simp only [List.mem_cons]; exact Or.inr z⟩
theorem fiL_n {w : Int} {L : List Int} : fiL L w 0 = -1 ↔ w ∉ L := by
  rcases fiL_r (w := w) (L := L) (k := 0) (by first | decide | omega) with ⟨x, y⟩ | ⟨x, y, z⟩
  · exact ⟨fun _ => y, fun _ => x⟩
  · exact ⟨fun q => (by first | decide | omega), fun q => absurd z q⟩
theorem fiL_b {w : Int} {L : List Int} : -1 ≤ fiL L w 0 ∧ fiL L w 0 < L.length + 1 := by
  rcases fiL_r (w := w) (L := L) (k := 0) (by first | decide | omega) with ⟨x, y⟩ | ⟨x, y, z⟩ <;> omega
def wC : List Int := [128034676042853, 1650553715, 1634497647, 499917942642]
def wL : List Int := [7368816, 28784, 112, 28016, 28006, 102, 26214, 6710886]
def wB : List Int := [125780002955636, 7697253, 1836021349, 120299659095922, 1650549611, 1936486263]
def wO : List Int := [7038329, 469785800562, 469920280434, 1953066341, 499917877359, 7103860, 508675318629, 6384756, 114]
def wM : List Int := [7038329, 469785800562, 469920280434, 1953066341, 499917877359, 7103860, 508675318629, 125780002955636, 6384756, 7697253, 1836021349, 120299659095922, 1650549611, 1936486263, 114]
theorem wM_m {w : Int} : w ∉ wM ↔ w ∉ wB ∧ w ∉ wO := by
  unfold wM wB wO
  simp only [List.mem_cons, List.not_mem_nil, or_false, not_or]
  constructor
  · rintro ⟨a, b, c, d, e, f, g, h, i, j, k, l, m, n, o⟩
    exact ⟨⟨h, j, k, l, m, n⟩, a, b, c, d, e, f, g, i, o⟩
  · rintro ⟨⟨h, j, k, l, m, n⟩, a, b, c, d, e, f, g, i, o⟩
    exact ⟨a, b, c, d, e, f, g, h, i, j, k, l, m, n, o⟩
def nmC (w : Int) : Prop := w ∉ wC ∧ w ∉ wL ∧ w ∉ wB ∧ w ∉ wO
theorem C_ix {K : zK} {s : Nat} {w : Int} {F : zF} {B : zB} (h : s < staL.length) (hb : (zta s).2.2.2.1 = true) (hl : ztl s ≤ 100) (hr : ∀ k, r64 (ztv s k)) (hw : r64 w) : ∀ {n : Nat} {k : Nat}, k ≤ (zta s).2.2.2.2.length → (zta s).2.2.2.2.length < n + k → f_Parser_indexOf_2 K n (k : Int) s w F B = some (fiL ((zta s).2.2.2.2.drop k) w k, F, B) := by
  intro n
  induction n with
  | zero => intro k a b; omega
  | succ n ih =>
    intro k a b
    unfold ztl at hl
    unfold f_Parser_indexOf_2
    rw [if_pos h, if_pos (by first | decide | omega), show ztl s = ((zta s).2.2.2.2.length : Int) from rfl, if_pos (by first | decide | omega)]
    by_cases e : k = (zta s).2.2.2.2.length
    · rw [if_pos (by first | decide | omega), e, List.drop_length]; rfl
    · have hk : k < (zta s).2.2.2.2.length := by omega
      rw [if_neg (by first | decide | omega), if_pos hb, if_pos (by first | decide | omega), if_pos (hr _), if_pos hw, List.drop_eq_getElem_cons hk]
      have hv : ztv s (k : Int) = (zta s).2.2.2.2[k] := by
        unfold ztv
        rw [show ((k : Int)).toNat = k by omega, List.getD_eq_getElem?_getD, List.getElem?_eq_getElem hk]; rfl
      unfold fiL
      by_cases q : ztv s (k : Int) = w
      · rw [if_pos (zcmp_0.mpr q), if_pos (hv ▸ q)]
      · rw [if_neg (fun z => q (zcmp_0.mp z)), if_neg (fun z => q (hv.trans z))]
        exact ih (k := k + 1) (by first | decide | omega) (by first | decide | omega)
theorem C_index {K : zK} {s : Nat} {w : Int} {F : zF} {B : zB} {L : List Int} (hK : 3002 ≤ K.1) (h : s < staL.length) (hb : (zta s).2.2.2.1 = true) (hL : (zta s).2.2.2.2 = L) (hl : L.length ≤ 100) (hr : ∀ x ∈ L, r64 x) (hw : r64 w) : f_Parser_indexOf K s w F B = some (fiL L w 0, F, B) := by
  have hr' : ∀ k, r64 (ztv s k) := by
    intro k
    unfold ztv
    rw [hL, List.getD_eq_getElem?_getD]
    cases e : L[k.toNat]? with
    | none => exact ⟨by decide, by decide⟩
    | some x => exact hr x (List.mem_of_getElem? e)
  have i := C_ix (K := K) (F := F) (B := B) h hb (by unfold ztl; rw [hL]; omega) hr' hw (n := K.1) (k := 0) (by first | decide | omega) (by rw [hL]; omega)
  unfold f_Parser_indexOf
  rw [show (0 : Int) = ((0 : Nat) : Int) from rfl, i, List.drop_zero, hL]
theorem C_ixC {K : zK} {w : Int} {F : zF} {B : zB} (hK : 3002 ≤ K.1) (hw : r64 w) : f_Parser_indexOf K 0 w F B = some (fiL wC w 0, F, B) := C_index hK (by decide) (by decide) (by decide) (by decide) (by decide) hw
theorem C_ixL {K : zK} {w : Int} {F : zF} {B : zB} (hK : 3002 ≤ K.1) (hw : r64 w) : f_Parser_indexOf K 1 w F B = some (fiL wL w 0, F, B) := C_index hK (by decide) (by decide) (by decide) (by decide) (by decide) hw
theorem C_ixB {K : zK} {w : Int} {F : zF} {B : zB} (hK : 3002 ≤ K.1) (hw : r64 w) : f_Parser_indexOf K 2 w F B = some (fiL wB w 0, F, B) := C_index hK (by decide) (by decide) (by decide) (by decide) (by decide) hw
theorem C_ixO {K : zK} {w : Int} {F : zF} {B : zB} (hK : 3002 ≤ K.1) (hw : r64 w) : f_Parser_indexOf K 3 w F B = some (fiL wO w 0, F, B) := C_index hK (by decide) (by decide) (by decide) (by decide) (by decide) hw
noncomputable def nmF (k w : Int) : Int := by
  classical
  exact if k = 4 ∧ nmC w then 1 else 0
theorem nmF_1 {k w : Int} (h : k = 4 ∧ nmC w) : nmF k w = 1 := by unfold nmF; rw [if_pos h]
theorem nmF_0 {k w : Int} (h : ¬ (k = 4 ∧ nmC w)) : nmF k w = 0 := by unfold nmF; rw [if_neg h]
theorem C_isName {K : zK} {F : zF} {B : zB} (h : CX K F B) : f_Parser_isName K 0 F B = some (nmF (F 10 0 0) (F 10 0 2), F, B) := by
  obtain ⟨k3, k10, e11, hk, hv, hx, h5, hK⟩ := h
  have bC := fiL_b (w := F 10 0 2) (L := wC)
  have bL := fiL_b (w := F 10 0 2) (L := wL)
  have bB := fiL_b (w := F 10 0 2) (L := wB)
  have bO := fiL_b (w := F 10 0 2) (L := wO)
  have lC : wC.length = 4 := rfl
  have lL : wL.length = 8 := rfl
  have lB : wB.length = 6 := rfl
  have lO : wO.length = 9 := rfl
  unfold f_Parser_isName f_Parser_isName_67 f_Parser_isName_68
  rw [e11, if_pos ⟨(by first | decide | omega), k3⟩, if_pos ⟨(by first | decide | omega), k10⟩, if_pos (by first | decide | omega)]
  by_cases a : F 10 0 0 = 4
  · rw [if_pos a, C_ixC hK (by first | decide | omega)]
    simp only [zb_s]
    rw [if_pos (by first | decide | omega)]
    by_cases nC : fiL wC (F 10 0 2) 0 = -1
    · rw [if_pos nC, C_ixL hK (by first | decide | omega)]
      simp only [zb_s]
      rw [if_pos (by first | decide | omega)]
      by_cases nL : fiL wL (F 10 0 2) 0 = -1
      · rw [if_pos nL, C_ixB hK (by first | decide | omega)]
        simp only [zb_s]
        rw [if_pos (by first | decide | omega)]
        by_cases nB : fiL wB (F 10 0 2) 0 = -1
        · rw [if_pos nB, C_ixO hK (by first | decide | omega)]
          simp only [zb_s]
          rw [if_pos (by first | decide | omega)]
          by_cases nO : fiL wO (F 10 0 2) 0 = -1
          · rw [if_pos nO, if_pos (by decide), nmF_1 ⟨a, fiL_n.mp nC, fiL_n.mp nL, fiL_n.mp nB, fiL_n.mp nO⟩]
          · rw [if_neg nO, if_pos (by decide), nmF_0 (fun z => nO (fiL_n.mpr z.2.2.2.2))]
        · rw [if_neg nB, if_pos (by decide), nmF_0 (fun z => nB (fiL_n.mpr z.2.2.2.1))]
      · rw [if_neg nL, if_pos (by decide), nmF_0 (fun z => nL (fiL_n.mpr z.2.2.1))]
    · rw [if_neg nC, if_pos (by decide), nmF_0 (fun z => nC (fiL_n.mpr z.2.1))]
  · rw [if_neg a, if_pos (by decide), nmF_0 (fun z => a z.1)]
/-- the place of a word in the first m of a row, -1 if it isn't there -/
def fdR (row : Int → Int) (m w : Int) : Nat → Int → Int
  | 0, _ => -1
  | f + 1, k => if m ≤ k then -1 else if row k = w then k else fdR row m w f (k + 1)
theorem fdR_f {row : Int → Int} {m w : Int} : ∀ {f g : Nat} {k : Int}, m - k < f → m - k < g → 0 < f → 0 < g → fdR row m w f k = fdR row m w g k := by
  intro f
  induction f with
  | zero => intro g k _ _ h _; omega
  | succ f ih =>
    intro g k a b _ d
    obtain ⟨g, rfl⟩ : ∃ x, g = x + 1 := ⟨g - 1, (by first | decide | omega)⟩
    unfold fdR
    by_cases h : m ≤ k
    · rw [if_pos h, if_pos h]
    · rw [if_neg h, if_neg h]
      by_cases q : row k = w
      · rw [if_pos q, if_pos q]
      · rw [if_neg q, if_neg q]
        exact ih (by first | decide | omega) (by first | decide | omega) (by first | decide | omega) (by first | decide | omega)
theorem fdR_r {row : Int → Int} {m w : Int} : ∀ {f : Nat} {k : Int}, 0 ≤ k → fdR row m w f k = -1 ∨ (k ≤ fdR row m w f k ∧ fdR row m w f k < m ∧ row (fdR row m w f k) = w) := by
  intro f
  induction f with
  | zero => intro k _; exact Or.inl rfl
  | succ f ih =>
    intro k h0
    unfold fdR
    by_cases h : m ≤ k
    · rw [if_pos h]; exact Or.inl rfl
    · rw [if_neg h]
      by_cases q : row k = w
      · rw [if_pos q]; exact Or.inr ⟨Int.le_refl _, (by first | decide | omega), q⟩
      · rw [if_neg q]
        rcases ih (k := k + 1) (by first | decide | omega) with x | x
        · exact Or.inl x
        · exact Or.inr ⟨(by first | decide | omega), x.2⟩
theorem fdR_c {row row' : Int → Int} {m w : Int} : ∀ {f : Nat} {k : Int}, (∀ x, k ≤ x → x < m → row x = row' x) → fdR row m w f k = fdR row' m w f k := by
  intro f
  induction f with
  | zero => intro k _; rfl
  | succ f ih =>
    intro k h
    unfold fdR
    by_cases a : m ≤ k
    · rw [if_pos a, if_pos a]
    · rw [if_neg a, if_neg a, h k (by first | decide | omega) (by first | decide | omega), ih (fun x p q => h x (by first | decide | omega) q)]
def rowIs (row : Int → Int) : List Int → Int → Prop
  | [], _ => True
  | a :: L, k => row k = a ∧ rowIs row L (k + 1)
theorem fdR_L {row : Int → Int} {m w : Int} : ∀ {L : List Int} {f : Nat} {k : Int}, rowIs row L k → m = k + L.length → L.length < f → fdR row m w f k = fiL L w k := by
  intro L
  induction L with
  | nil =>
    intro f k _ hm hf
    obtain ⟨f, rfl⟩ : ∃ x, f = x + 1 := ⟨f - 1, by rw [List.length_nil] at hf; omega⟩
    unfold fdR fiL
    rw [if_pos (by rw [hm, List.length_nil]; omega)]
  | cons a L ih =>
    intro f k hr hm hf
    rw [List.length_cons] at hm hf
    obtain ⟨f, rfl⟩ : ∃ x, f = x + 1 := ⟨f - 1, (by first | decide | omega)⟩
    unfold fdR fiL
    rw [if_neg (by first | decide | omega), hr.1, ih hr.2 (by first | decide | omega) (by first | decide | omega)]
theorem L_fd {K : Nat} {c : Nat} {i : Int} {k : Nat} {m w : Int} {F : zF} {B : zB} (hi : 0 ≤ i ∧ i < nM c) (hl : m ≤ (lnM c i k : Int)) (hl2 : lnM c i k ≤ 2147483647) (hz : zk c k = (3, 1)) (hm : 0 ≤ m ∧ m ≤ 1000) (hr : ∀ x, 0 ≤ x → x < m → r64 (B c i k x)) (hw : r64 w) : ∀ {n : Nat} {x : Int}, 0 ≤ x → x ≤ m → m - x < n → f_M_find_3 K n x c i k m w F B = some (fdR (B c i k) m w n x, F, B) := by
  intro n
  induction n with
  | zero => intro x _ _ h; omega
  | succ n ih =>
    intro x a b d
    unfold f_M_find_3 fdR
    rw [if_pos (by first | decide | omega), if_pos (by first | decide | omega)]
    by_cases h : m ≤ x
    · rw [if_pos h, if_pos h]
    · rw [if_neg h, if_neg h, if_pos hi, if_pos (by first | decide | omega), if_pos hz, if_pos hl2, if_pos (hr x a (by first | decide | omega)), if_pos hw]
      by_cases q : B c i k x = w
      · rw [if_pos (zcmp_0.mpr q), if_pos q]
      · rw [if_neg (fun z => q (zcmp_0.mp z)), if_neg q]
        exact ih (by first | decide | omega) (by first | decide | omega) (by first | decide | omega)
theorem L_find {K : Nat} {c : Nat} {i : Int} {k : Nat} {m w : Int} {F : zF} {B : zB} (hK : 3002 ≤ K) (hi : 0 ≤ i ∧ i < nM c) (hl : m ≤ (lnM c i k : Int)) (hl2 : lnM c i k ≤ 2147483647) (hz : zk c k = (3, 1)) (hm : 0 ≤ m ∧ m ≤ 20) (hr : ∀ x, 0 ≤ x → x < m → r64 (B c i k x)) (hw : r64 w) : f_M_find K c i k m w F B = some (fdR (B c i k) m w 22 0, F, B) := by
  unfold f_M_find
  rw [L_fd hi hl hl2 hz (by first | decide | omega) hr hw (by first | decide | omega) (by first | decide | omega) (by first | decide | omega), fdR_f (f := K) (g := 22) (by first | decide | omega) (by first | decide | omega) (by first | decide | omega) (by first | decide | omega)]
/-- the reference's words -/
def MW (B : zB) : Prop := rowIs (B 14 0 13) wC 0 ∧ rowIs (B 14 0 14) wL 0 ∧ rowIs (B 14 0 15) wM 0
theorem rowIs_r {row : Int → Int} : ∀ {L : List Int} {k : Int}, rowIs row L k → (∀ x ∈ L, r64 x) → ∀ x, k ≤ x → x < k + L.length → r64 (row x) := by
  intro L
  induction L with
  | nil => intro k _ _ x a b; rw [List.length_nil] at b; omega
  | cons a L ih =>
    intro k h hr x p q
    rw [List.length_cons] at q
    by_cases e : x = k
    · rw [e, h.1]; exact hr a (by simp)
    · exact ih h.2 (fun y hy => hr y (by simp [hy])) x (by first | decide | omega) (by first | decide | omega)
theorem L_fC {K : Nat} {w : Int} {F : zF} {B : zB} (hK : 3002 ≤ K) (h : MW B) (hw : r64 w) : f_M_find K 14 0 13 4 w F B = some (fiL wC w 0, F, B) := by
  rw [L_find hK (by decide) (by decide) (by decide) (by decide) (by decide) (fun x a b => rowIs_r h.1 (by decide) x a (by rw [show wC.length = 4 from rfl]; omega)) hw, fdR_L h.1 (by decide) (by decide)]
theorem L_fL {K : Nat} {w : Int} {F : zF} {B : zB} (hK : 3002 ≤ K) (h : MW B) (hw : r64 w) : f_M_find K 14 0 14 8 w F B = some (fiL wL w 0, F, B) := by
  rw [L_find hK (by decide) (by decide) (by decide) (by decide) (by decide) (fun x a b => rowIs_r h.2.1 (by decide) x a (by rw [show wL.length = 8 from rfl]; omega)) hw, fdR_L h.2.1 (by decide) (by decide)]
theorem L_fM {K : Nat} {w : Int} {F : zF} {B : zB} (hK : 3002 ≤ K) (h : MW B) (hw : r64 w) : f_M_find K 14 0 15 15 w F B = some (fiL wM w 0, F, B) := by
  rw [L_find hK (by decide) (by decide) (by decide) (by decide) (by decide) (fun x a b => rowIs_r h.2.2 (by decide) x a (by rw [show wM.length = 15 from rfl]; omega)) hw, fdR_L h.2.2 (by decide) (by decide)]
theorem L_isName {K : Nat} {F : zF} {B : zB} {j : Int} (hK : 3002 ≤ K) (hm : MX F B j) (hW : MW B) : f_M_isName K F B = some (nmF (B 14 0 7 j) (B 14 0 11 j), F, B) := by
  obtain ⟨rfl, h0, hk, hv, hw⟩ := hm
  have bC := fiL_b (w := B 14 0 11 (F 14 0 16)) (L := wC)
  have bL := fiL_b (w := B 14 0 11 (F 14 0 16)) (L := wL)
  have bM := fiL_b (w := B 14 0 11 (F 14 0 16)) (L := wM)
  have lC : wC.length = 4 := rfl
  have lL : wL.length = 8 := rfl
  have lM : wM.length = 15 := rfl
  unfold f_M_isName f_M_isName_79 f_M_isName_80
  rw [if_pos (by first | decide | omega), if_pos (by first | decide | omega)]
  by_cases a : B 14 0 7 (F 14 0 16) = 4
  · have w4 := hw a
    rw [if_pos a, L_fM hK hW (by first | decide | omega)]
    simp only [zb_s]
    rw [if_pos (by first | decide | omega)]
    by_cases nM : fiL wM (B 14 0 11 (F 14 0 16)) 0 = -1
    · rw [if_neg (by first | decide | omega), if_pos (by first | decide | omega), L_fC hK hW (by first | decide | omega)]
      simp only [zb_s]
      rw [if_pos (by first | decide | omega)]
      by_cases nC : fiL wC (B 14 0 11 (F 14 0 16)) 0 = -1
      · rw [if_neg (by first | decide | omega), if_pos (by first | decide | omega), L_fL hK hW (by first | decide | omega)]
        simp only [zb_s]
        rw [if_pos (by first | decide | omega)]
        by_cases nL : fiL wL (B 14 0 11 (F 14 0 16)) 0 = -1
        · have z := wM_m.mp (fiL_n.mp nM)
          rw [if_neg (by first | decide | omega), if_pos (by decide), nmF_1 ⟨a, fiL_n.mp nC, fiL_n.mp nL, z.1, z.2⟩]
        · rw [if_pos (by first | decide | omega), if_pos (by decide), nmF_0 (fun z => nL (fiL_n.mpr z.2.2.1))]
      · rw [if_pos (by first | decide | omega), if_pos (by decide), nmF_0 (fun z => nC (fiL_n.mpr z.2.1))]
    · rw [if_pos (by first | decide | omega), if_pos (by decide), nmF_0 (fun z => nM (fiL_n.mpr (wM_m.mpr ⟨z.2.2.2.1, z.2.2.2.2⟩)))]
  · rw [if_neg a, if_pos (by decide), nmF_0 (fun z => a z.1)]
end
end
section
section
/-! ===== more of the class's steps over tokens, exactly ===== -/
theorem CX_b {K : zK} {F : zF} {B : zB} {k : Nat} {x v : Int} (h : CX K F B) : CX K F (zup4 B 3 0 k x v) := by
  obtain ⟨k3, k10, e11, hk, hv, hx, h5, hK⟩ := h
  refine ⟨k3, k10, e11, hk, hv, hx, fun j => ?_, hK⟩
  rw [zup4_v, if_neg (fun z => absurd z.1 (by decide))]
  exact h5 j
theorem advF_b {F : zF} {B : zB} {k : Nat} {x v : Int} : advF F (zup4 B 3 0 k x v) = advF F B := by
  unfold advF
  simp only [zup4_v]
  simp
theorem C_lN {K : zK} {F : zF} {B : zB} {w : Int} (h : CX K F B) (hl : 0 ≤ F 3 0 16 ∧ F 3 0 16 ≤ 6) (hr : ∀ x, 0 ≤ x → x < F 3 0 16 → r64 (B 3 0 12 x)) (hw : r64 w) : ∀ {n : Nat} {x : Int}, 0 ≤ x → x ≤ F 3 0 16 → F 3 0 16 - x < n → f_Parser_letNamed_2 K n x 0 w F B = some (if fdR (B 3 0 12) (F 3 0 16) w n x < 0 then -1 else B 3 0 13 (fdR (B 3 0 12) (F 3 0 16) w n x), F, B) := by
  obtain ⟨k3, k10, e11, hk, hv, hx, h5, hK⟩ := h
  intro n
  induction n with
  | zero => intro x _ _ h; omega
  | succ n ih =>
    intro x a b d
    unfold f_Parser_letNamed_2 fdR
    rw [if_pos ⟨(by first | decide | omega), k3⟩, if_pos (by first | decide | omega), if_pos (by first | decide | omega)]
    by_cases h : F 3 0 16 ≤ x
    · rw [if_pos h, if_pos h, if_pos (by decide)]
    · rw [if_neg h, if_neg h, if_pos (by first | decide | omega), if_pos (hr x a (by first | decide | omega)), if_pos hw]
      by_cases q : B 3 0 12 x = w
      · rw [if_pos (zcmp_0.mpr q), if_pos q, if_neg (by first | decide | omega)]
      · rw [if_neg (fun z => q (zcmp_0.mp z)), if_neg q]
        exact ih (by first | decide | omega) (by first | decide | omega) (by first | decide | omega)
theorem C_letNamed {K : zK} {F : zF} {B : zB} {w : Int} (h : CX K F B) (hl : 0 ≤ F 3 0 16 ∧ F 3 0 16 ≤ 6) (hr : ∀ x, 0 ≤ x → x < F 3 0 16 → r64 (B 3 0 12 x)) (hw : r64 w) : f_Parser_letNamed K 0 w F B = some (if fdR (B 3 0 12) (F 3 0 16) w 22 0 < 0 then -1 else B 3 0 13 (fdR (B 3 0 12) (F 3 0 16) w 22 0), F, B) := by
  have hK := h.2.2.2.2.2.2.2
  unfold f_Parser_letNamed
  rw [C_lN h hl hr hw (by first | decide | omega) (by first | decide | omega) (by first | decide | omega), fdR_f (f := K.1) (g := 22) (by first | decide | omega) (by first | decide | omega) (by first | decide | omega) (by first | decide | omega)]
theorem C_takeNumber {K : zK} {F : zF} {B : zB} {lo hi pw : Int} (h : CX K F B) (hl : r32 lo) (hh : r32 hi) (hp : pw = 0 ∨ pw = 1 ∧ 1 ≤ lo ∧ hi ≤ 32) : (F 10 0 0 = 3 → nOK (F 10 0 2) lo hi pw → f_Parser_takeNumber K 0 lo hi pw F B = some (1, advF (zup3 F 3 0 19 (F 10 0 2)) B, B)) ∧ (F 10 0 0 = 3 → ¬ nOK (F 10 0 2) lo hi pw → f_Parser_takeNumber K 0 lo hi pw F B = some (0, refF F 5, B)) ∧ (¬ F 10 0 0 = 3 → f_Parser_takeNumber K 0 lo hi pw F B = some (0, refF F 2, B)) := by
  have r2 := C_refuse (s := 2) h
  have r5 := C_refuse (s := 5) h
  have ad := C_adv (CX_u (k := 19) (v := F 10 0 2) h (by decide))
  obtain ⟨k3, k10, e11, hk, hv, hx, h5, hK⟩ := h
  have z79 : f_Parser_takeNumber_79 K 0 F B = some (1, advF (zup3 F 3 0 19 (F 10 0 2)) B, B) := by
    unfold f_Parser_takeNumber_79
    rw [e11, if_pos ⟨(by first | decide | omega), k3⟩, if_pos ⟨(by first | decide | omega), k10⟩, ad]; rfl
  have z73 : f_Parser_takeNumber_73 K 0 F B = some (0, refF F 5, B) := by
    unfold f_Parser_takeNumber_73
    rw [if_pos ⟨(by first | decide | omega), k3⟩, r5]; rfl
  unfold f_Parser_takeNumber f_Parser_takeNumber_47 f_Parser_takeNumber_48
  rw [e11, if_pos ⟨(by first | decide | omega), k3⟩, if_pos ⟨(by first | decide | omega), k10⟩, if_pos (by first | decide | omega)]
  refine ⟨fun a n => ?_, fun a n => ?_, fun a => ?_⟩
  · obtain ⟨n1, n2, n3⟩ := n
    rw [if_pos a, if_pos hl, if_pos (by first | decide | omega), if_pos (by first | decide | omega), if_neg (by rw [zcmp_lt]; omega), if_pos hh, if_pos (by first | decide | omega), if_neg (by rw [zcmp_g]; omega), if_pos (by decide), if_neg (by decide), if_pos (by first | decide | omega)]
    rcases hp with rfl | ⟨rfl, p1, p2⟩
    · rw [if_pos rfl, z79]
    · obtain ⟨r, b1, b2, b3⟩ := bitC (K := K) (F := F) (B := B) ⟨(F 10 0 2).toNat, (by first | decide | omega)⟩
      rw [show (((⟨(F 10 0 2).toNat, (by first | decide | omega)⟩ : Fin 33).val : Nat) : Int) = F 10 0 2 by show (((F 10 0 2).toNat : Nat) : Int) = _; omega] at b1 b3
      rw [if_neg (by decide), if_pos ⟨(by first | decide | omega), k3⟩, if_pos ⟨(by first | decide | omega), k10⟩, b1]
      simp only [zb_s]
      rw [if_pos b2, if_pos (b3.mpr (n3.resolve_left (by decide))), z79]
  · rw [if_pos a, if_pos hl, if_pos (by first | decide | omega), if_pos (by first | decide | omega), z73]
    by_cases n1 : F 10 0 2 < lo
    · rw [if_pos (zcmp_lt.mpr n1), if_pos (by decide), if_pos rfl]
    · rw [if_neg (fun z => n1 (zcmp_lt.mp z)), if_pos hh, if_pos (by first | decide | omega)]
      by_cases n2 : hi < F 10 0 2
      · rw [if_pos (zcmp_g.mpr n2), if_pos (by decide), if_pos rfl]
      · rw [if_neg (fun z => n2 (zcmp_g.mp z)), if_pos (by decide), if_neg (by decide), if_pos (by first | decide | omega)]
        rcases hp with rfl | ⟨rfl, p1, p2⟩
        · exact absurd ⟨(by first | decide | omega), (by first | decide | omega), Or.inl rfl⟩ n
        · obtain ⟨r, b1, b2, b3⟩ := bitC (K := K) (F := F) (B := B) ⟨(F 10 0 2).toNat, (by first | decide | omega)⟩
          rw [show (((⟨(F 10 0 2).toNat, (by first | decide | omega)⟩ : Fin 33).val : Nat) : Int) = F 10 0 2 by show (((F 10 0 2).toNat : Nat) : Int) = _; omega] at b1 b3
          rw [if_neg (by decide), if_pos ⟨(by first | decide | omega), k3⟩, if_pos ⟨(by first | decide | omega), k10⟩, b1]
          simp only [zb_s]
          rw [if_pos b2, if_neg (fun z => n ⟨(by first | decide | omega), (by first | decide | omega), Or.inr (b3.mp z)⟩), z73]
  · rw [if_neg a, r2]; rfl
def newB (B : zB) (x s p : Int) : zB := zup4 (zup4 (zup4 (zup4 (zup4 (zup4 (zup4 (zup4 B 3 0 0 x s) 3 0 1 x p) 3 0 2 x 0) 3 0 3 x (-1)) 3 0 4 x (-1)) 3 0 5 x (-1)) 3 0 6 x 0) 3 0 7 x 0
theorem C_newItem {K : zK} {F : zF} {B : zB} {s : Int} (h : CX K F B) (hi : 0 ≤ F 3 0 14 ∧ F 3 0 14 < 3000) : f_Parser_newItem K 0 s F B = some (F 3 0 14, zup3 F 3 0 14 (F 3 0 14 + 1), newB B (F 3 0 14) s (F 10 0 1)) := by
  obtain ⟨k3, k10, e11, hk, hv, hx, h5, hK⟩ := h
  have z : zmin (F 3 0 14) 2999 = F 3 0 14 := by unfold zmin; rw [if_neg (by first | decide | omega)]
  unfold f_Parser_newItem
  rw [z, e11, if_pos ⟨(by first | decide | omega), k3⟩, if_pos (by first | decide | omega), if_pos (by first | decide | omega), if_pos ⟨(by first | decide | omega), k10⟩]
  rfl
theorem CX_n {K : zK} {F : zF} {B : zB} {x s p : Int} (h : CX K F B) : CX K F (newB B x s p) := CX_b (CX_b (CX_b (CX_b (CX_b (CX_b (CX_b (CX_b h)))))))
theorem advF_n {F : zF} {B : zB} {x s p : Int} : advF F (newB B x s p) = advF F B := by
  unfold newB
  simp only [advF_b]
def isrt (k v : Int) : Int := if k = 4 then (if fiL wB v 0 = -1 then (if v = 114 then 0 else -1) else 4 + fiL wB v 0) else if k = 2 then 0 else if k = 5 then (if v = 60 then 0 else if v = 124 then 1 else if v = 33 then 2 else if v = 91 then 3 else -1) else -1
theorem fiL_c {w : Int} {L : List Int} : -1 ≤ fiL L w 0 ∧ (fiL L w 0 = -1 ∨ fiL L w 0 < L.length) := by
  rcases fiL_r (w := w) (L := L) (k := 0) (by first | decide | omega) with ⟨x, y⟩ | ⟨x, y, z⟩ <;> omega
theorem isrt_r (k v : Int) : -1 ≤ isrt k v ∧ isrt k v ≤ 9 := by
  have b := fiL_c (w := v) (L := wB)
  have l : wB.length = 6 := rfl
  unfold isrt
  split
  · split
    · split <;> omega
    · omega
  · split
    · omega
    · split
      · split
        · omega
        · split
          · omega
          · split
            · omega
            · split <;> omega
      · omega
theorem C_itemSort {K : zK} {F : zF} {B : zB} (h : CX K F B) : f_Parser_itemSort K 0 F B = some (isrt (F 10 0 0) (F 10 0 2), F, B) := by
  have s60 := C_isSign (c := 60) h (by decide)
  have s124 := C_isSign (c := 124) h (by decide)
  have s33 := C_isSign (c := 33) h (by decide)
  have s91 := C_isSign (c := 91) h (by decide)
  obtain ⟨k3, k10, e11, hk, hv, hx, h5, hK⟩ := h
  have b := fiL_b (w := F 10 0 2) (L := wB)
  have l : wB.length = 6 := rfl
  unfold f_Parser_itemSort f_Parser_itemSort_53 f_Parser_itemSort_77 f_Parser_itemSort_124 isrt
  rw [e11, if_pos ⟨(by first | decide | omega), k3⟩, if_pos ⟨(by first | decide | omega), k10⟩, if_pos (by first | decide | omega)]
  by_cases a : F 10 0 0 = 4
  · rw [if_pos a, if_pos a, C_ixB hK (by first | decide | omega)]
    simp only [zb_s]
    rw [if_pos (by first | decide | omega)]
    by_cases n : fiL wB (F 10 0 2) 0 = -1
    · rw [if_pos n, if_pos n, e11, if_pos ⟨(by first | decide | omega), k10⟩, if_pos (by first | decide | omega)]
      by_cases w : F 10 0 2 = 114
      · rw [if_pos (zcmp_0.mpr w), if_pos w]
      · rw [if_neg (fun z => w (zcmp_0.mp z)), if_neg w]
    · rw [if_neg n, if_neg n]
  · rw [if_neg a, if_neg a]
    by_cases a2 : F 10 0 0 = 2
    · rw [if_pos a2, if_pos a2]
    · rw [if_neg a2, if_neg a2, s60]
      have r60 := sgn_r F 60
      have r124 := sgn_r F 124
      have r33 := sgn_r F 33
      have r91 := sgn_r F 91
      simp only [zb_s]
      rw [if_pos (by first | decide | omega)]
      by_cases a5 : F 10 0 0 = 5
      · rw [if_pos a5]
        by_cases c60 : F 10 0 2 = 60
        · rw [if_neg (by rw [sgn_0]; exact fun z => z ⟨a5, c60⟩), if_pos c60]
        · rw [if_pos (by rw [sgn_0]; exact fun z => c60 z.2), if_neg c60, e11, if_pos ⟨(by first | decide | omega), k10⟩, s124]
          simp only [zb_s]
          rw [if_pos (by first | decide | omega)]
          by_cases c124 : F 10 0 2 = 124
          · rw [if_neg (by rw [sgn_0]; exact fun z => z ⟨a5, c124⟩), if_pos c124]
          · rw [if_pos (by rw [sgn_0]; exact fun z => c124 z.2), if_neg c124, e11, if_pos ⟨(by first | decide | omega), k10⟩, s33]
            simp only [zb_s]
            rw [if_pos (by first | decide | omega)]
            by_cases c33 : F 10 0 2 = 33
            · rw [if_neg (by rw [sgn_0]; exact fun z => z ⟨a5, c33⟩), if_pos c33]
            · rw [if_pos (by rw [sgn_0]; exact fun z => c33 z.2), if_neg c33, e11, if_pos ⟨(by first | decide | omega), k10⟩, s91]
              simp only [zb_s]
              rw [if_pos (by first | decide | omega)]
              by_cases c91 : F 10 0 2 = 91
              · rw [if_neg (by rw [sgn_0]; exact fun z => z ⟨a5, c91⟩), if_pos c91]
              · rw [if_pos (by rw [sgn_0]; exact fun z => c91 z.2), if_neg c91]
      · have n : ∀ c, sgn F c = 0 := fun c => sgn_0.mpr (fun z => a5 z.1)
        rw [if_neg a5, if_pos (n 60), e11, if_pos ⟨(by first | decide | omega), k10⟩, s124]
        simp only [zb_s]
        rw [if_pos (by first | decide | omega), if_pos (n 124), e11, if_pos ⟨(by first | decide | omega), k10⟩, s33]
        simp only [zb_s]
        rw [if_pos (by first | decide | omega), if_pos (n 33), e11, if_pos ⟨(by first | decide | omega), k10⟩, s91]
        simp only [zb_s]
        rw [if_pos (by first | decide | omega), if_pos (n 91)]
def pitB (F : zF) (B : zB) (x : Int) : zB := zup4 (zup4 (zup4 (zup4 B 3 0 8 (F 3 0 15) (F 10 0 3)) 3 0 9 (F 3 0 15) (F 10 0 4)) 3 0 10 (F 3 0 15) (F 10 0 1)) 3 0 6 x (B 3 0 6 x + 1)
theorem C_takePitch {K : zK} {F : zF} {B : zB} {x : Int} (h : CX K F B) (hp : 0 ≤ F 3 0 15 ∧ F 3 0 15 < 1500) (hx : 0 ≤ x ∧ x < 3000) : f_Parser_takePitch K 0 x F B = some (0, advF (zup3 F 3 0 15 (F 3 0 15 + 1)) B, pitB F B x) := by
  have ad := C_adv (B := pitB F B x) (CX_b (CX_b (CX_b (CX_b (CX_u (k := 15) (v := F 3 0 15 + 1) h (by decide))))))
  have ea : advF (zup3 F 3 0 15 (F 3 0 15 + 1)) (pitB F B x) = advF (zup3 F 3 0 15 (F 3 0 15 + 1)) B := by unfold pitB; simp only [advF_b]
  have e6 : (zup4 (zup4 (zup4 B 3 0 8 (F 3 0 15) (F 10 0 3)) 3 0 9 (F 3 0 15) (F 10 0 4)) 3 0 10 (F 3 0 15) (F 10 0 1)) 3 0 6 x = B 3 0 6 x := by simp [zup4_v]
  obtain ⟨k3, k10, e11, hk, hv, hx', h5, hK⟩ := h
  unfold f_Parser_takePitch f_Parser_takePitch_80
  rw [e11, if_pos ⟨(by first | decide | omega), k3⟩, if_pos (by first | decide | omega), if_neg (by first | decide | omega), if_pos ⟨(by first | decide | omega), k10⟩, if_pos hp, if_pos hx, if_pos ⟨(by first | decide | omega), k3⟩, e6]
  rw [show (zup3 F 3 0 15 (F 3 0 15 + 1)) 3 0 11 = 0 by simp [zup3_v, e11], if_pos ⟨(by first | decide | omega), k10⟩]
  rw [show zup4 (zup4 (zup4 (zup4 B 3 0 8 (F 3 0 15) (F 10 0 3)) 3 0 9 (F 3 0 15) (F 10 0 4)) 3 0 10 (F 3 0 15) (F 10 0 1)) 3 0 6 x (B 3 0 6 x + 1) = pitB F B x from rfl, ad, ea]
  rfl
theorem C_takeLoud {K : zK} {F : zF} {B : zB} {x : Int} (h : CX K F B) (hx : 0 ≤ x ∧ x < 3000) : (F 10 0 0 = 4 → F 10 0 2 ∈ wL → f_Parser_takeLoud K 0 x F B = some (1, advF F B, zup4 B 3 0 2 x (fiL wL (F 10 0 2) 0))) ∧ (¬ (F 10 0 0 = 4 ∧ F 10 0 2 ∈ wL) → f_Parser_takeLoud K 0 x F B = some (0, refF F 2, B)) := by
  have r2 := C_refuse (s := 2) h
  have ad := C_adv (CX_b (k := 2) (x := x) (v := fiL wL (F 10 0 2) 0) h)
  rw [advF_b] at ad
  obtain ⟨k3, k10, e11, hk, hv, hx', h5, hK⟩ := h
  have b := fiL_b (w := F 10 0 2) (L := wL)
  have l : wL.length = 8 := rfl
  unfold f_Parser_takeLoud f_Parser_takeLoud_28
  rw [e11, if_pos ⟨(by first | decide | omega), k3⟩, if_pos ⟨(by first | decide | omega), k10⟩, if_pos (by first | decide | omega)]
  refine ⟨fun a m => ?_, fun n => ?_⟩
  · rw [if_pos a, C_ixL hK (by first | decide | omega)]
    simp only [zb_s]
    rw [if_pos (by first | decide | omega), if_neg (fun z => fiL_n.mp z m), if_pos ⟨(by first | decide | omega), k3⟩, if_pos hx, e11, if_pos ⟨(by first | decide | omega), k10⟩, ad]
    rfl
  · by_cases a : F 10 0 0 = 4
    · rw [if_pos a, C_ixL hK (by first | decide | omega)]
      simp only [zb_s]
      rw [if_pos (by first | decide | omega), if_pos (fiL_n.mpr (fun z => n ⟨a, z⟩)), if_pos ⟨(by first | decide | omega), k3⟩, r2]
      rfl
    · rw [if_neg a, if_pos (by decide), if_pos rfl, if_pos ⟨(by first | decide | omega), k3⟩, r2]
      rfl
end
end
section
section
/-! ===== both sides stepped together ===== -/
def zP (x y : zO) (Q : Int → zF → zB → Int → zF → zB → Prop) : Prop := ∃ r F B r' F' B', x = some (r, F, B) ∧ y = some (r', F', B') ∧ Q r F B r' F' B'
theorem zP_s {r r' : Int} {F F' : zF} {B B' : zB} {Q : Int → zF → zB → Int → zF → zB → Prop} (h : Q r F B r' F' B') : zP (some (r, F, B)) (some (r', F', B')) Q := ⟨r, F, B, r', F', B', rfl, rfl, h⟩
theorem zP_m {x y : zO} {R Q : Int → zF → zB → Int → zF → zB → Prop} (h : zP x y R) (hk : ∀ r F B r' F' B', R r F B r' F' B' → Q r F B r' F' B') : zP x y Q := by
  obtain ⟨r, F, B, r', F', B', e, e', q⟩ := h
  exact ⟨r, F, B, r', F', B', e, e', hk _ _ _ _ _ _ q⟩
theorem zP_c {x y : zO} {k k' : Int → zF → zB → zO} {R Q : Int → zF → zB → Int → zF → zB → Prop} (h : zP x y R) (hk : ∀ r F B r' F' B', R r F B r' F' B' → zP (k r F B) (k' r' F' B') Q) : zP (zbind x k) (zbind y k') Q := by
  obtain ⟨r, F, B, r', F', B', e, e', q⟩ := h
  rw [e, e']
  exact hk _ _ _ _ _ _ q
theorem zP_cl {x y : zO} {k : Int → zF → zB → zO} {R Q : Int → zF → zB → Int → zF → zB → Prop} (h : zP x y R) (hk : ∀ r F B r' F' B', R r F B r' F' B' → zP (k r F B) (some (r', F', B')) Q) : zP (zbind x k) y Q := by
  obtain ⟨r, F, B, r', F', B', e, e', q⟩ := h
  rw [e, e']
  exact hk _ _ _ _ _ _ q
/-- the token that the class has come to is the reference's token j -/
def CUR (F : zF) (B Bm : zB) (N j : Int) : Prop := (0 ≤ j ∧ j ≤ N) ∧ F 10 0 0 = Bm 14 0 7 j ∧ F 10 0 1 = Bm 14 0 8 j ∧ F 10 0 2 = B 10 0 7 j ∧ (Bm 14 0 7 j = 2 → F 10 0 3 = Bm 14 0 9 j ∧ F 10 0 4 = Bm 14 0 10 j) ∧ F 10 0 8 = (if j = N then N else j + 1)
theorem advF_o {F : zF} {B : zB} {c k : Nat} {i : Int} (h : ¬ (c = 10 ∧ i = 0)) : advF F B c i k = F c i k := by
  have n : ∀ x, ¬ (c = 10 ∧ i = 0 ∧ k = x) := fun x z => h ⟨z.1, z.2.1⟩
  unfold advF
  split
  · simp only [zup3_v]
    simp only [if_neg (n _)]
  · simp only [zup3_v]
    simp only [if_neg (n _)]
theorem CUR_adv {F : zF} {B Bm : zB} {N j : Int} (hT : TK B Bm N) (h : CUR F B Bm N j) (hj : ¬ Bm 14 0 7 j = 0) : CUR (advF F B) B Bm N (j + 1) := by
  obtain ⟨n0, n1, hT⟩ := hT
  obtain ⟨⟨j0, j1⟩, hk, hp, hv, hs, hx⟩ := h
  have t0 := (hT j j0 j1).2.2.2.1
  have jN : ¬ j = N := fun z => hj (t0.mpr z)
  rw [if_neg jN] at hx
  obtain ⟨a1, a2, a3, a4, a5, a6, a7, a8, a9, a10, a11⟩ := hT (j + 1) (by first | decide | omega) (by first | decide | omega)
  unfold CUR advF
  rw [hx]
  by_cases e : B 10 0 5 (j + 1) = 2
  · have e' : Bm 14 0 7 (j + 1) = 2 := by omega
    obtain ⟨b1, b2, b3, b4, b5⟩ := a5 e'
    have n : ¬ j + 1 = N := fun z => by have := a4.mpr z; omega
    rw [if_pos e, if_neg n]
    simp only [zup3_v]
    have d1 : zdv (B 10 0 7 (j + 1)) 8 = Bm 14 0 9 (j + 1) := by rw [zdv_e (by first | decide | omega) (by first | decide | omega) (by decide) (by decide)]; omega
    have d2 : zrm (B 10 0 7 (j + 1)) 8 - 2 = Bm 14 0 10 (j + 1) := by rw [zrm_e (by first | decide | omega) (by first | decide | omega) (by decide) (by decide)]; omega
    refine ⟨(by first | decide | omega), ?_, ?_, ?_, fun _ => ⟨?_, ?_⟩, ?_⟩
    · simpa using a1
    · simpa using a2
    · simp
    · simpa using d1
    · simpa using d2
    · simp; omega
  · have e' : ¬ Bm 14 0 7 (j + 1) = 2 := by omega
    rw [if_neg e]
    simp only [zup3_v]
    refine ⟨(by first | decide | omega), ?_, ?_, ?_, fun z => absurd z e', ?_⟩
    · simpa using a1
    · simpa using a2
    · simp
    · simp
      by_cases q : j + 1 = N
      · rw [if_pos q, if_pos (Or.inl (by have := a4.mpr q; omega))]; exact q
      · rw [if_neg q, if_neg]
        rintro (z | z)
        · exact q (a4.mp (by first | decide | omega))
        · omega
def lenV (n p : Int) : Int := zdv (zdv 128 n * ztv 4 p) 4
/-- what both parsers stand on: tokens, words, room -/
def EV (K : zK) (Km : Nat) (N : Int) (B Bm : zB) : Prop := TK B Bm N ∧ MW Bm ∧ (∀ j, r32 (B 10 0 5 j)) ∧ 0 < K.2 3 ∧ 0 < K.2 10 ∧ 3002 ≤ K.1 ∧ 3002 ≤ Km
/-- both parsers at token j, and no fault yet -/
def PS (N j : Int) (F : zF) (B : zB) (Fm : zF) (Bm : zB) : Prop := F 3 0 11 = 0 ∧ CUR F B Bm N j ∧ Fm 14 0 16 = j ∧ Fm 14 0 17 = 0 ∧ F 3 0 21 = 0 ∧ (F 3 0 18 = Fm 14 0 19 ∧ 0 ≤ F 3 0 18 ∧ F 3 0 18 ≤ 8) ∧ (F 3 0 18 = 0 ∨ F 3 0 20 = lenV (Fm 14 0 20) (Fm 14 0 21) ∧ pw2 (Fm 14 0 20) ∧ 0 ≤ Fm 14 0 21 ∧ Fm 14 0 21 ≤ 2) ∧ (0 ≤ F 3 0 15 ∧ 2 * F 3 0 15 ≤ Bm 14 0 8 j)
theorem PS_CX {K : zK} {Km : Nat} {N j : Int} {F : zF} {B : zB} {Fm : zF} {Bm : zB} (hE : EV K Km N B Bm) (h : PS N j F B Fm Bm) : CX K F B := by
  obtain ⟨⟨n0, n1, hT⟩, hW, h5, k3, k10, k1, km⟩ := hE
  obtain ⟨e11, ⟨⟨j0, j1⟩, hk, hp, hv, hs, hx⟩, _⟩ := h
  obtain ⟨a1, a2, a3, a4, a5, a6, a7, a8, a9, a10, a11⟩ := hT j j0 j1
  refine ⟨k3, k10, e11, (by first | decide | omega), (by first | decide | omega), ?_, h5, k1⟩
  rw [hx]
  split <;> omega
theorem PS_MX {K : zK} {Km : Nat} {N j : Int} {F : zF} {B : zB} {Fm : zF} {Bm : zB} (hE : EV K Km N B Bm) (h : PS N j F B Fm Bm) : MX Fm Bm j := by
  obtain ⟨⟨n0, n1, hT⟩, hW, h5, k3, k10, k1, km⟩ := hE
  obtain ⟨e11, ⟨⟨j0, j1⟩, hk, hp, hv, hs, hx⟩, ht, _⟩ := h
  obtain ⟨a1, a2, a3, a4, a5, a6, a7, a8, a9, a10, a11⟩ := hT j j0 j1
  refine ⟨ht, (by first | decide | omega), (by first | decide | omega), ?_, fun z => ?_⟩
  · rintro (z | z)
    · have := a8 z; omega
    · have := a6 z; omega
  · have := a7 z; omega
theorem PS_sg {K : zK} {Km : Nat} {N j c : Int} {F : zF} {B : zB} {Fm : zF} {Bm : zB} (hE : EV K Km N B Bm) (h : PS N j F B Fm Bm) : sgn F c = sgm Bm j c := by
  obtain ⟨⟨n0, n1, hT⟩, _⟩ := hE
  obtain ⟨e11, ⟨⟨j0, j1⟩, hk, hp, hv, hs, hx⟩, ht, _⟩ := h
  obtain ⟨a1, a2, a3, a4, a5, a6, a7, a8, a9, a10, a11⟩ := hT j j0 j1
  unfold sgn sgm
  rw [hk, hv]
  by_cases a : Bm 14 0 7 j = 5
  · rw [(a8 a).1]
  · rw [if_neg (fun z => a z.1), if_neg (fun z => a z.1)]
theorem PS_wd {K : zK} {Km : Nat} {N j c : Int} {F : zF} {B : zB} {Fm : zF} {Bm : zB} (hE : EV K Km N B Bm) (h : PS N j F B Fm Bm) : wdn F c = wdm Bm j c := by
  obtain ⟨⟨n0, n1, hT⟩, _⟩ := hE
  obtain ⟨e11, ⟨⟨j0, j1⟩, hk, hp, hv, hs, hx⟩, ht, _⟩ := h
  obtain ⟨a1, a2, a3, a4, a5, a6, a7, a8, a9, a10, a11⟩ := hT j j0 j1
  unfold wdn wdm
  rw [hk, hv]
  by_cases a : Bm 14 0 7 j = 4
  · rw [(a7 a).1]
  · rw [if_neg (fun z => a z.1), if_neg (fun z => a z.1)]
theorem PS_step {K : zK} {Km : Nat} {N j : Int} {F : zF} {B : zB} {Fm : zF} {Bm : zB} (hE : EV K Km N B Bm) (h : PS N j F B Fm Bm) (hj : ¬ Bm 14 0 7 j = 0) : PS N (j + 1) (advF F B) B (zup3 Fm 14 0 16 (j + 1)) Bm := by
  have hc := CUR_adv hE.1 h.2.1 hj
  obtain ⟨⟨n0, n1, hT⟩, _⟩ := hE
  obtain ⟨e11, ⟨⟨j0, j1⟩, hk, hp, hv, hs, hx⟩, ht, hf, hw, hd, hl, hq⟩ := h
  obtain ⟨a1, a2, a3, a4, a5, a6, a7, a8, a9, a10, a11⟩ := hT j j0 j1
  have jN : j < N := by have : ¬ j = N := fun z => hj (a4.mpr z); omega
  have i := a11 jN
  refine ⟨?_, hc, ?_, ?_, ?_, ?_, ?_, ?_⟩
  · rw [advF_o (by decide)]; exact e11
  · simp [zup3_v]
  · simp [zup3_v]; exact hf
  · rw [advF_o (by decide)]; exact hw
  · rw [advF_o (by decide)]; simp [zup3_v]; exact hd
  · rw [advF_o (by decide), advF_o (by decide)]; simp [zup3_v]; exact hl
  · rw [advF_o (by decide)]; split at i <;> omega
/-- a fault, the same on both sides -/
def ERR (F Fm : zF) : Prop := (F 3 0 21 = Fm 14 0 17 + 16 * Fm 14 0 18 ∧ 0 ≤ Fm 14 0 18 ∧ Fm 14 0 18 ≤ 3000) ∧ bad Fm
theorem PS_err {K : zK} {Km : Nat} {N j s s' : Int} {F : zF} {B : zB} {Fm : zF} {Bm : zB} (hE : EV K Km N B Bm) (h : PS N j F B Fm Bm) (hs : s' = if Bm 14 0 7 j = 1 then 1 else s) (h1 : 1 ≤ s ∧ s ≤ 15) : ERR (refF F s) (errM Fm Bm s') := by
  obtain ⟨e11, ⟨⟨j0, j1⟩, hk, hp, hv, hsx, hx⟩, ht, hf, hw, hd, hl, hq⟩ := h
  have tp := (hE.1.2.2 j j0 j1).2.2.2.2.2.2.2.2.2.1
  unfold ERR refF errM bad
  simp only [zup3_v]
  simp
  rw [hk, hp, ht, hs]
  split <;> omega
theorem PS_err2 {K : zK} {Km : Nat} {N j : Int} {F : zF} {B : zB} {Fm : zF} {Bm : zB} (hE : EV K Km N B Bm) (h : PS N j F B Fm Bm) : ERR (refF F 2) (errM Fm Bm (wr Bm j)) := PS_err hE h rfl (by decide)
theorem PS_u {N j v : Int} {k : Nat} {F : zF} {B : zB} {Fm : zF} {Bm : zB} (h : PS N j F B Fm Bm) (hk : k = 14 ∨ k = 16 ∨ k = 17 ∨ k = 19) : PS N j (zup3 F 3 0 k v) B Fm Bm := by
  have e : ∀ c i x, ¬ (c = 3 ∧ i = 0 ∧ x = k) → (zup3 F 3 0 k v) c i x = F c i x := fun c i x n => by rw [zup3_v, if_neg n]
  have g : ∀ x, ¬ x = k → (zup3 F 3 0 k v) 3 0 x = F 3 0 x := fun x n => e 3 0 x (fun z => n z.2.2)
  have g10 : ∀ x, (zup3 F 3 0 k v) 10 0 x = F 10 0 x := fun x => e 10 0 x (fun z => absurd z.1 (by decide))
  unfold PS CUR at *
  rw [g 11 (by first | decide | omega), g 21 (by first | decide | omega), g 18 (by first | decide | omega), g 20 (by first | decide | omega), g 15 (by first | decide | omega)]
  simp only [g10]
  exact h
theorem PS_d {N j : Int} {F : zF} {B : zB} {Fm : zF} {Bm : zB} {d : Int} (h : PS N j F B Fm Bm) (hd : 0 ≤ d ∧ d ≤ 8) (hpw : F 3 0 20 = lenV (Fm 14 0 20) (Fm 14 0 21) ∧ pw2 (Fm 14 0 20) ∧ 0 ≤ Fm 14 0 21 ∧ Fm 14 0 21 ≤ 2) : PS N j (zup3 F 3 0 18 d) B (zup3 Fm 14 0 19 d) Bm := by
  obtain ⟨e11, hc, ht, hf, hw, hd', hl, hq⟩ := h
  unfold PS CUR at *
  simp only [zup3_v]
  simp
  exact ⟨e11, hc, ht, hf, hw, hd, Or.inr hpw, hq⟩
theorem PS_pw {N j : Int} {F : zF} {B : zB} {Fm : zF} {Bm : zB} (h : PS N j F B Fm Bm) (hd : 1 ≤ F 3 0 18) : F 3 0 20 = lenV (Fm 14 0 20) (Fm 14 0 21) ∧ pw2 (Fm 14 0 20) ∧ 0 ≤ Fm 14 0 21 ∧ Fm 14 0 21 ≤ 2 := by
  rcases h.2.2.2.2.2.2.1 with z | z
  · omega
  · exact z
theorem PS_B {N j : Int} {F : zF} {B B' : zB} {Fm : zF} {Bm Bm' : zB} (h : PS N j F B Fm Bm) (hB : ∀ k, B' 10 0 k = B 10 0 k) (hm : ∀ k, k ≤ 11 → Bm' 14 0 k = Bm 14 0 k) : PS N j F B' Fm Bm' := by
  unfold PS CUR at *
  rw [hB 7, hm 7 (by decide), hm 8 (by decide), hm 9 (by decide), hm 10 (by decide)]
  exact h
theorem EV_B {K : zK} {Km : Nat} {N : Int} {B B' Bm Bm' : zB} (h : EV K Km N B Bm) (hB : ∀ k, B' 10 0 k = B 10 0 k) (hm : ∀ k, k ≤ 15 → Bm' 14 0 k = Bm 14 0 k) : EV K Km N B' Bm' := by
  obtain ⟨⟨n0, n1, hT⟩, hW, h5, hK⟩ := h
  refine ⟨⟨n0, n1, fun j a b => ?_⟩, ?_, fun j => ?_, hK⟩
  · have t := hT j a b
    unfold TKj at *
    rw [hB 5, hB 6, hB 7, hm 7 (by decide), hm 8 (by decide), hm 9 (by decide), hm 10 (by decide), hm 11 (by decide)]
    exact t
  · unfold MW at *
    rw [hm 13 (by decide), hm 14 (by decide), hm 15 (by decide)]
    exact hW
  · rw [hB 5]; exact h5 j
def fF (F F' : zF) : Prop := ∀ c i k, ¬ (c = 10 ∧ i = 0) → ¬ (c = 3 ∧ i = 0 ∧ (k = 14 ∨ k = 15 ∨ 18 ≤ k)) → F' c i k = F c i k
def fG (F F' : zF) : Prop := ∀ c i k, ¬ (c = 14 ∧ i = 0 ∧ 16 ≤ k ∧ k ≤ 21) → F' c i k = F c i k
def fB (lo pl : Int) (B B' : zB) : Prop := ∀ c i k x, ¬ (c = 3 ∧ i = 0 ∧ k ≤ 7 ∧ lo ≤ x) → ¬ (c = 3 ∧ i = 0 ∧ 8 ≤ k ∧ k ≤ 10 ∧ pl ≤ x) → B' c i k x = B c i k x
def fH (fr : Int) (B B' : zB) : Prop := ∀ c i k x, ¬ (c = 14 ∧ i = 0 ∧ 30 ≤ k ∧ k ≤ 34 ∧ fr ≤ x) → B' c i k x = B c i k x
theorem fF_r {F : zF} : fF F F := fun _ _ _ _ _ => rfl
theorem fG_r {F : zF} : fG F F := fun _ _ _ _ => rfl
theorem fB_r {lo pl : Int} {B : zB} : fB lo pl B B := fun _ _ _ _ _ _ => rfl
theorem fH_r {fr : Int} {B : zB} : fH fr B B := fun _ _ _ _ _ => rfl
theorem fF_t {F F' F'' : zF} (h : fF F F') (h' : fF F' F'') : fF F F'' := fun c i k a b => by rw [h' c i k a b, h c i k a b]
theorem fG_t {F F' F'' : zF} (h : fG F F') (h' : fG F' F'') : fG F F'' := fun c i k a => by rw [h' c i k a, h c i k a]
theorem fB_t {lo pl : Int} {B B' B'' : zB} (h : fB lo pl B B') (h' : fB lo pl B' B'') : fB lo pl B B'' := fun c i k x a b => by rw [h' c i k x a b, h c i k x a b]
theorem fH_t {fr : Int} {B B' B'' : zB} (h : fH fr B B') (h' : fH fr B' B'') : fH fr B B'' := fun c i k x a => by rw [h' c i k x a, h c i k x a]
theorem fB_m {lo pl lo' pl' : Int} {B B' : zB} (h : fB lo pl B B') (h1 : lo' ≤ lo) (h2 : pl' ≤ pl) : fB lo' pl' B B' := fun c i k x a b => h c i k x (fun z => a ⟨z.1, z.2.1, z.2.2.1, (by first | decide | omega)⟩) (fun z => b ⟨z.1, z.2.1, z.2.2.1, z.2.2.2.1, (by first | decide | omega)⟩)
theorem fH_m {fr fr' : Int} {B B' : zB} (h : fH fr B B') (h1 : fr' ≤ fr) : fH fr' B B' := fun c i k x a => h c i k x (fun z => a ⟨z.1, z.2.1, z.2.2.1, z.2.2.2.1, (by first | decide | omega)⟩)
theorem fF_a {F F' : zF} {B : zB} (h : fF F F') : fF F (advF F' B) := fun c i k a b => by rw [advF_o a]; exact h c i k a b
theorem fF_u {F F' : zF} {k : Nat} {v : Int} (h : fF F F') (hk : k = 14 ∨ k = 15 ∨ 18 ≤ k) : fF F (zup3 F' 3 0 k v) := fun c i x a b => by
  rw [zup3_v, if_neg (fun z => b ⟨z.1, z.2.1, by rw [z.2.2]; exact hk⟩)]; exact h c i x a b
theorem fF_e {F F' : zF} {s : Int} (h : fF F F') : fF F (refF F' s) := fF_u h (by decide)
theorem fG_u {F F' : zF} {k : Nat} {v : Int} (h : fG F F') (h1 : 16 ≤ k) (h2 : k ≤ 21) : fG F (zup3 F' 14 0 k v) := fun c i x a => by
  rw [zup3_v, if_neg (fun z => a ⟨z.1, z.2.1, by rw [z.2.2]; exact h1, by rw [z.2.2]; exact h2⟩)]; exact h c i x a
theorem fG_e {F F' : zF} {B : zB} {s : Int} (h : fG F F') : fG F (errM F' B s) := fG_u (fG_u h (by decide) (by decide)) (by decide) (by decide)
theorem fB_u {lo pl : Int} {B B' : zB} {k : Nat} {x v : Int} (h : fB lo pl B B') (hk : k ≤ 7 ∧ lo ≤ x ∨ 8 ≤ k ∧ k ≤ 10 ∧ pl ≤ x) : fB lo pl B (zup4 B' 3 0 k x v) := fun c i y z a b => by
  rw [zup4_v, if_neg]
  · exact h c i y z a b
  · rintro ⟨rfl, rfl, rfl, rfl⟩
    rcases hk with q | q
    · exact a ⟨rfl, rfl, q⟩
    · exact b ⟨rfl, rfl, q⟩
theorem fH_u {fr : Int} {B B' : zB} {k : Nat} {x v : Int} (h : fH fr B B') (h1 : 30 ≤ k) (h2 : k ≤ 34) (h3 : fr ≤ x) : fH fr B (zup4 B' 14 0 k x v) := fun c i y z a => by
  rw [zup4_v, if_neg]
  · exact h c i y z a
  · rintro ⟨rfl, rfl, rfl, rfl⟩
    exact a ⟨rfl, rfl, h1, h2, h3⟩
theorem fB_10 {lo pl : Int} {B B' : zB} (h : fB lo pl B B') (k : Nat) : B' 10 0 k = B 10 0 k := by
  funext x; exact h 10 0 k x (fun z => absurd z.1 (by decide)) (fun z => absurd z.1 (by decide))
theorem fH_k {fr : Int} {B B' : zB} (h : fH fr B B') (k : Nat) (hk : k ≤ 29) : B' 14 0 k = B 14 0 k := by
  funext x; exact h 14 0 k x (fun z => by have := z.2.2.1; omega)
theorem EV_f {K : zK} {Km : Nat} {N lo pl fr : Int} {B B' Bm Bm' : zB} (h : EV K Km N B Bm) (hB : fB lo pl B B') (hm : fH fr Bm Bm') : EV K Km N B' Bm' := EV_B h (fB_10 hB) (fun k hk => fH_k hm k (by first | decide | omega))
theorem PS_f {N j lo pl fr : Int} {F : zF} {B B' : zB} {Fm : zF} {Bm Bm' : zB} (h : PS N j F B Fm Bm) (hB : fB lo pl B B') (hm : fH fr Bm Bm') : PS N j F B' Fm Bm' := PS_B h (fB_10 hB) (fun k hk => fH_k hm k (by first | decide | omega))
end
end
