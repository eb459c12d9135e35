/-! ===== a run of bytes becomes a token, on the reference's side ===== -/
theorem zup4_v {B : zB} {c k c' k' : Nat} {i j v i' j' : Int} : zup4 B c i k j v c' i' k' j' = if c' = c ∧ i' = i ∧ k' = k ∧ j' = j then v else B c' i' k' j' := by
  by_cases h : c' = c ∧ i' = i ∧ k' = k
  · obtain ⟨rfl, rfl, rfl⟩ := h
    rw [zup4_self]
    unfold zup
    by_cases g : j' = j
    · rw [if_pos g, if_pos ⟨rfl, rfl, rfl, g⟩]
    · rw [if_neg g, if_neg (fun z => g z.2.2.2)]
  · rw [zup4_ne h, if_neg (fun z => h ⟨z.1, z.2.1, z.2.2.1⟩)]
theorem zup3_v {F : zF} {c k c' k' : Nat} {i v i' : Int} : zup3 F c i k v c' i' k' = if c' = c ∧ i' = i ∧ k' = k then v else F c' i' k' := rfl
theorem tmB_up {B : zB} {k : Nat} {j v : Int} (h : k ≠ 2) : tmB (zup4 B 14 0 k j v) = tmB B := by
  funext y
  unfold tmB
  rw [zup4_ne (fun z => h z.2.2.symm)]
/-- nothing but the rows ks of the reference changes, and these at T alone -/
def frT (ks : List Nat) (T : Int) (B B' : zB) : Prop := ∀ c i k j, ¬ (c = 14 ∧ i = 0 ∧ k ∈ ks ∧ j = T) → B' c i k j = B c i k j
theorem frT_r {ks : List Nat} {T : Int} {B : zB} : frT ks T B B := fun _ _ _ _ _ => rfl
theorem frT_u {ks : List Nat} {k : Nat} {T v : Int} {B B' : zB} (h : frT ks T B B') (hk : k ∈ ks) : frT ks T B (zup4 B' 14 0 k T v) := by
  intro c i x j hn
  rw [zup4_v, if_neg (fun z => hn ⟨z.1, z.2.1, by rw [z.2.2.1]; exact hk, z.2.2.2⟩)]
  exact h c i x j hn
theorem frT_t {ks : List Nat} {T : Int} {B B' B'' : zB} (h : frT ks T B B') (h' : frT ks T B' B'') : frT ks T B B'' := fun c i k j hn => by rw [h' c i k j hn, h c i k j hn]
theorem frT_m {ks ls : List Nat} {T : Int} {B B' : zB} (h : frT ks T B B') (hk : ∀ k ∈ ks, k ∈ ls) : frT ls T B B' := fun c i k j hn => h c i k j (fun z => hn ⟨z.1, z.2.1, hk k z.2.2.1, z.2.2.2⟩)
theorem L_num {K : Nat} {p q : Int} {F : zF} {t : Int → Int} (hT : 0 ≤ F 14 0 12 ∧ F 14 0 12 < 3001) (hp : 0 ≤ p) (hq : q ≤ 3000) : ∀ {n : Nat} {k : Int} {B : zB}, p ≤ k → k ≤ q → q - k < n → tmB B = t → B 14 0 9 (F 14 0 12) = nmv t 10 48 p (k - p).toNat → zW (f_M_cutRun_124 K n k q F B) (fun r F' B' => r = q ∧ F' = F ∧ frT [9] (F 14 0 12) B B' ∧ B' 14 0 9 (F 14 0 12) = nmv t 10 48 p (q - p).toNat) := by
  intro n
  induction n with
  | zero => intro k B a b d _ _; omega
  | succ n ih =>
    intro k B a b d ht hv
    unfold f_M_cutRun_124
    refine zW_g (by first | decide | omega) ?_
    refine zW_g (by first | decide | omega) ?_
    refine zW_i (fun h1 => ?_) (fun h1 => ?_)
    · skip
      unfold f_M_cutRun_213
      refine zW_s ?_
      refine ⟨rfl, rfl, frT_r, ?_⟩
      rw [hv, show k = q by omega]
    · skip
      refine zW_g (by first | decide | omega) ?_
      refine zW_e (L_byteA (by first | decide | omega) (by first | decide | omega)) ?_
      refine zW_m (ih (by first | decide | omega) (by first | decide | omega) (by first | decide | omega) ((tmB_up (by decide)).trans ht) ?_) (fun r F' B' hh => ?_)
      · rw [zup4_v, if_pos ⟨rfl, rfl, rfl, rfl⟩, show (k + 1 - p).toNat = (k - p).toNat + 1 by omega]
        unfold nmv
        rw [hv, ht, show p + (((k - p).toNat : Nat) : Int) = k by omega]
        omega
      · obtain ⟨h1, h2, h3, h4⟩ := hh
        exact ⟨h1, h2, frT_t (frT_u frT_r (by decide)) h3, h4⟩
/-- the kind of a run -/
def runK (t : Int → Int) (p s : Int) : Int := if cnt bDig t p s.toNat = s ∧ s ≤ 4 then 3 else if cnt bLet t p s.toNat = s ∧ s ≤ 8 then 4 else if pitS t p s = 1 then 2 else 1
def pitV (t : Int → Int) (p q : Int) : Int := 7 * (t (q - 1) - 48) + (t p - 99) % 7
def pitA (t : Int → Int) (p s : Int) : Int := if t (p + 1) = 35 then s - 2 else 2 - s
def tokR (t : Int → Int) (p q : Int) (T : Int) (B' : zB) : Prop := B' 14 0 7 T = runK t p (q - p) ∧ (runK t p (q - p) = 3 → B' 14 0 9 T = nmv t 10 48 p (q - p).toNat) ∧ (runK t p (q - p) = 4 → B' 14 0 11 T = wrd t p (q - p).toNat) ∧ (runK t p (q - p) = 2 → B' 14 0 9 T = pitV t p q ∧ B' 14 0 10 T = pitA t p (q - p))
theorem L_cr77 {K : Nat} {p q : Int} {F : zF} {B : zB} {t : Int → Int} (hK : 3002 ≤ K) (hT : 0 ≤ F 14 0 12 ∧ F 14 0 12 < 3001) (hp : 0 ≤ p) (hpq : p < q) (hq : q ≤ 3000) (ht : tmB B = t) : zW (f_M_cutRun_77 K (wrd t p (q - p).toNat) (cnt bDig t p (q - p).toNat) (cnt bLet t p (q - p).toNat) q p F B) (fun r F' B' => r = q ∧ F' = F ∧ frT [7, 9, 10, 11] (F 14 0 12) B B' ∧ tokR t p q (F 14 0 12) B') := by
  have cd := cnt_le (t := t) (p := p) bDig_b (m := (q - p).toNat)
  have cl := cnt_le (t := t) (p := p) bLet_b (m := (q - p).toNat)
  have up1 : tmB (zup4 B 14 0 7 (F 14 0 12) 1) = t := (tmB_up (by decide)).trans ht
  unfold f_M_cutRun_77
  refine zW_g (by first | decide | omega) ?_
  refine zW_g (by first | decide | omega) ?_
  refine zW_g (by first | decide | omega) ?_
  refine zW_i (fun h1 => ?_) (fun h1 => ?_)
  · skip
    refine zW_i (fun h2 => ?_) (fun h2 => ?_)
    · skip
      unfold f_M_cutRun_170
      refine zW_g (by first | decide | omega) ?_
      refine zW_g (by first | decide | omega) ?_
      refine zW_i (fun h3 => ?_) (fun h3 => ?_)
      · skip
        refine zW_i (fun h4 => ?_) (fun h4 => ?_)
        · skip
          unfold f_M_cutRun_207
          refine zW_b (L_cutPitch hK hT hp hpq hq) (fun r40 F40 B40 hh => ?_)
          obtain ⟨rfl, hB⟩ := hh
          unfold f_M_cutRun_213
          refine zW_s ?_
          rw [up1] at hB
          have hk : runK t p (q - p) = if pitS t p (q - p) = 1 then 2 else 1 := by unfold runK; rw [if_neg (by first | decide | omega), if_neg (by first | decide | omega)]
          by_cases hc : pitS t p (q - p) = 1
          · rw [if_pos hc] at hB hk
            subst hB
            refine ⟨rfl, rfl, frT_u (frT_u (frT_u (frT_u frT_r (by decide)) (by decide)) (by decide)) (by decide), ?_, fun z => ?_, fun z => ?_, fun _ => ⟨?_, ?_⟩⟩
            · rw [hk]; simp [zup4_v, keepP]
            · omega
            · omega
            · simp [zup4_v, keepP, pitV]
            · simp [zup4_v, keepP, pitA]
          · rw [if_neg hc] at hB hk
            subst hB
            refine ⟨rfl, rfl, frT_u frT_r (by decide), ?_, fun z => ?_, fun z => ?_, fun z => ?_⟩
            · rw [hk]; simp [zup4_v]
            · omega
            · omega
            · omega
        · skip
          refine zW_g (by first | decide | omega) ?_
          unfold f_M_cutRun_213
          refine zW_s ?_
          have hk : runK t p (q - p) = 4 := by unfold runK; rw [if_neg (by first | decide | omega), if_pos ⟨(by first | decide | omega), (by first | decide | omega)⟩]
          refine ⟨rfl, rfl, frT_u (frT_u (frT_u frT_r (by decide)) (by decide)) (by decide), ?_, fun z => ?_, fun _ => ?_, fun z => ?_⟩
          · rw [hk]; simp [zup4_v]
          · omega
          · simp [zup4_v]
          · omega
      · skip
        unfold f_M_cutRun_207
        refine zW_b (L_cutPitch hK hT hp hpq hq) (fun r40 F40 B40 hh => ?_)
        obtain ⟨rfl, hB⟩ := hh
        unfold f_M_cutRun_213
        refine zW_s ?_
        rw [up1] at hB
        have hk : runK t p (q - p) = if pitS t p (q - p) = 1 then 2 else 1 := by unfold runK; rw [if_neg (by first | decide | omega), if_neg (by first | decide | omega)]
        by_cases hc : pitS t p (q - p) = 1
        · rw [if_pos hc] at hB hk
          subst hB
          refine ⟨rfl, rfl, frT_u (frT_u (frT_u (frT_u frT_r (by decide)) (by decide)) (by decide)) (by decide), ?_, fun z => ?_, fun z => ?_, fun _ => ⟨?_, ?_⟩⟩
          · rw [hk]; simp [zup4_v, keepP]
          · omega
          · omega
          · simp [zup4_v, keepP, pitV]
          · simp [zup4_v, keepP, pitA]
        · rw [if_neg hc] at hB hk
          subst hB
          refine ⟨rfl, rfl, frT_u frT_r (by decide), ?_, fun z => ?_, fun z => ?_, fun z => ?_⟩
          · rw [hk]; simp [zup4_v]
          · omega
          · omega
          · omega
    · skip
      refine zW_m (L_num (p := p) hT hp hq (by first | decide | omega) (by first | decide | omega) (by first | decide | omega) ((tmB_up (by decide)).trans ((tmB_up (by decide)).trans up1)) ?_) (fun r F' B' hh => ?_)
      · rw [zup4_v, if_pos ⟨rfl, rfl, rfl, rfl⟩, show (p - p).toNat = 0 by omega]; rfl
      · obtain ⟨g1, g2, g3, g4⟩ := hh
        have hk : runK t p (q - p) = 3 := by unfold runK; rw [if_pos ⟨(by first | decide | omega), (by first | decide | omega)⟩]
        refine ⟨g1, g2, frT_t (frT_u (frT_u (frT_u frT_r (by decide)) (by decide)) (by decide)) (frT_m g3 (by decide)), ?_, fun _ => g4, fun z => ?_, fun z => ?_⟩
        · rw [g3 14 0 7 _ (by simp), hk]
          simp [zup4_v]
        · omega
        · omega
  · skip
    unfold f_M_cutRun_170
    refine zW_g (by first | decide | omega) ?_
    refine zW_g (by first | decide | omega) ?_
    refine zW_i (fun h5 => ?_) (fun h5 => ?_)
    · skip
      refine zW_i (fun h6 => ?_) (fun h6 => ?_)
      · skip
        unfold f_M_cutRun_207
        refine zW_b (L_cutPitch hK hT hp hpq hq) (fun r40 F40 B40 hh => ?_)
        obtain ⟨rfl, hB⟩ := hh
        unfold f_M_cutRun_213
        refine zW_s ?_
        rw [up1] at hB
        have hk : runK t p (q - p) = if pitS t p (q - p) = 1 then 2 else 1 := by unfold runK; rw [if_neg (by first | decide | omega), if_neg (by first | decide | omega)]
        by_cases hc : pitS t p (q - p) = 1
        · rw [if_pos hc] at hB hk
          subst hB
          refine ⟨rfl, rfl, frT_u (frT_u (frT_u (frT_u frT_r (by decide)) (by decide)) (by decide)) (by decide), ?_, fun z => ?_, fun z => ?_, fun _ => ⟨?_, ?_⟩⟩
          · rw [hk]; simp [zup4_v, keepP]
          · omega
          · omega
          · simp [zup4_v, keepP, pitV]
          · simp [zup4_v, keepP, pitA]
        · rw [if_neg hc] at hB hk
          subst hB
          refine ⟨rfl, rfl, frT_u frT_r (by decide), ?_, fun z => ?_, fun z => ?_, fun z => ?_⟩
          · rw [hk]; simp [zup4_v]
          · omega
          · omega
          · omega
      · skip
        refine zW_g (by first | decide | omega) ?_
        unfold f_M_cutRun_213
        refine zW_s ?_
        have hk : runK t p (q - p) = 4 := by unfold runK; rw [if_neg (by first | decide | omega), if_pos ⟨(by first | decide | omega), (by first | decide | omega)⟩]
        refine ⟨rfl, rfl, frT_u (frT_u (frT_u frT_r (by decide)) (by decide)) (by decide), ?_, fun z => ?_, fun _ => ?_, fun z => ?_⟩
        · rw [hk]; simp [zup4_v]
        · omega
        · simp [zup4_v]
        · omega
    · skip
      unfold f_M_cutRun_207
      refine zW_b (L_cutPitch hK hT hp hpq hq) (fun r40 F40 B40 hh => ?_)
      obtain ⟨rfl, hB⟩ := hh
      unfold f_M_cutRun_213
      refine zW_s ?_
      rw [up1] at hB
      have hk : runK t p (q - p) = if pitS t p (q - p) = 1 then 2 else 1 := by unfold runK; rw [if_neg (by first | decide | omega), if_neg (by first | decide | omega)]
      by_cases hc : pitS t p (q - p) = 1
      · rw [if_pos hc] at hB hk
        subst hB
        refine ⟨rfl, rfl, frT_u (frT_u (frT_u (frT_u frT_r (by decide)) (by decide)) (by decide)) (by decide), ?_, fun z => ?_, fun z => ?_, fun _ => ⟨?_, ?_⟩⟩
        · rw [hk]; simp [zup4_v, keepP]
        · omega
        · omega
        · simp [zup4_v, keepP, pitV]
        · simp [zup4_v, keepP, pitA]
      · rw [if_neg hc] at hB hk
        subst hB
        refine ⟨rfl, rfl, frT_u frT_r (by decide), ?_, fun z => ?_, fun z => ?_, fun z => ?_⟩
        · rw [hk]; simp [zup4_v]
        · omega
        · omega
        · omega
theorem runE_run {t : Int → Int} {n p : Int} {f : Nat} (h : ¬ n ≤ p) (hb : ¬ bRun (t p) = 0) (hf : n - p < f) : p < runE t n f p ∧ runE t n f p ≤ n := by
  obtain ⟨f, rfl⟩ : ∃ g, f = g + 1 := ⟨f - 1, (by first | decide | omega)⟩
  unfold runE
  rw [if_neg h, if_neg hb]
  have := runE_le (t := t) (f := f) (p := p + 1) (n := n) (by first | decide | omega)
  omega
/-- the run at p, ended by the tape's end or by another byte -/
def runQ (t : Int → Int) (n p : Int) : Int := runE t n 3002 p
theorem L_cutRun {K : Nat} {p : Int} {F : zF} {B : zB} {t : Int → Int} (hK : 3002 ≤ K) (hT : 0 ≤ F 14 0 12 ∧ F 14 0 12 < 3001) (h0 : 0 ≤ F 14 0 3) (h1 : F 14 0 3 ≤ 3000) (hp : 0 ≤ p) (hpn : p < F 14 0 3) (ht : tmB B = t) (hb : ¬ bRun (t p) = 0) : zW (f_M_cutRun K p F B) (fun r F' B' => r = runQ t (F 14 0 3) p ∧ F' = F ∧ frT [7, 9, 10, 11] (F 14 0 12) B B' ∧ tokR t p (runQ t (F 14 0 3) p) (F 14 0 12) B') := by
  have hE : runE t (F 14 0 3) K p = runQ t (F 14 0 3) p := runE_f (by first | decide | omega) (by first | decide | omega)
  have hR := runE_run (t := t) (n := F 14 0 3) (p := p) (f := 3002) (by first | decide | omega) hb (by first | decide | omega)
  have hS := runS_all (t := t) (n := F 14 0 3) (p0 := p) (f := K) (m := 0)
  rw [show p + ((0 : Nat) : Int) = p by omega, hE] at hS
  have hS' : runS t (F 14 0 3) K 0 0 0 p = (wrd t p (runQ t (F 14 0 3) p - p).toNat, cnt bDig t p (runQ t (F 14 0 3) p - p).toNat, cnt bLet t p (runQ t (F 14 0 3) p - p).toNat, runQ t (F 14 0 3) p) := hS
  unfold f_M_cutRun
  rw [L_run h0 h1 hp (by first | decide | omega) (by first | decide | omega), show (fun y => B 14 0 2 y % 256) = t from ht, hS']
  exact L_cr77 hK hT hp hR.1 (by unfold runQ; omega) ht
