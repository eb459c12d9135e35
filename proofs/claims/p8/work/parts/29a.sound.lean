section
section
/-! ===== sounds: ticks, forces, tones, pitches that hold on ===== -/
/-- the tick of a place -/
def tk (p : Int) : Int := p / 2116800
theorem tk_0 {p : Int} (h : 0 ≤ p) : 0 ≤ tk p := Int.ediv_nonneg h (by decide)
theorem tk_m {p q : Int} (h : p ≤ q) : tk p ≤ tk q := Int.ediv_le_ediv (by decide) h
theorem tk_b {p : Int} (h : p ≤ 1000000000000) : tk p ≤ 472411 := by
  have := tk_m h
  have : tk 1000000000000 ≤ 472411 := by decide
  omega
theorem C_tick {K : zK} {p : Int} {F : zF} {B : zB} (p0 : 0 ≤ p) (p1 : p ≤ 1000000000000) : f_Performance_tick K p F B = some (tk p, F, B) := by
  unfold f_Performance_tick tk
  rw [zldv_e (by first | decide | omega) (by first | decide | omega) (by decide) (by decide), show (812851200 : Int) = 384 * 2116800 by decide, Int.mul_ediv_mul_of_pos p 2116800 (show (0 : Int) < 384 by decide)]
theorem L_tick {K : Nat} {p : Int} {F : zF} {B : zB} (p0 : 0 ≤ p) (p1 : p ≤ 1000000000000) : f_M_tick K (nu p) (de p) F B = some (tk p, F, B) := by
  have h := FR_r p0
  have hb := FR_b h
  have hw : WW = 812851200 := rfl
  have e := (div_FR (c := 1) (d := 384) (q := 2116800) h.2.2.2 (by decide) h.1 (by decide) (by decide) (by decide)).1
  have t0 := tk_0 p0
  have t1 := tk_b p1
  have n0 := h.2.2.1
  have d0 := h.1
  unfold f_M_tick
  have v : zldv (384 * nu p) (de p) = tk p := by
    rw [zldv_e (by first | decide | omega) (by first | decide | omega) d0 (by first | decide | omega), Int.mul_comm 384]
    rw [Int.mul_one] at e
    exact e
  rw [if_pos (lI_n0 d0 (by unfold r64; omega)), v, if_pos (by unfold r32; omega)]
/-- how hard an event is struck -/
def foV (m l : Int) : Int := if 20 + 13 * l + (if zand m 16 = 0 then 0 else 15) ≤ 127 then 20 + 13 * l + (if zand m 16 = 0 then 0 else 15) else 127
theorem foV_b {m l : Int} (h : 0 ≤ l ∧ l ≤ 7) : 0 ≤ foV m l ∧ foV m l ≤ 127 := by
  unfold foV
  by_cases a : zand m 16 = 0
  · rw [if_pos a]; split <;> omega
  · rw [if_neg a]; split <;> omega
theorem mk8_f : ∀ n : Fin 128, (zand (n.val : Nat) 8 = 0 ∨ zand (n.val : Nat) 8 = 8) ∧ (zand (n.val : Nat) 16 = 0 ∨ zand (n.val : Nat) 16 = 16) ∧ (zand (n.val : Nat) 32 = 0 ∨ zand (n.val : Nat) 32 = 32) ∧ (zand (n.val : Nat) 64 = 0 ∨ zand (n.val : Nat) 64 = 64) := by decide
theorem mk8_i {a : Int} (h0 : 0 ≤ a) (h1 : a < 128) : (zand a 8 = 0 ∨ zand a 8 = 8) ∧ (zand a 16 = 0 ∨ zand a 16 = 16) ∧ (zand a 32 = 0 ∨ zand a 32 = 32) ∧ (zand a 64 = 0 ∨ zand a 64 = 64) := by
  have h := mk8_f ⟨a.toNat, (by first | decide | omega)⟩
  rw [show (((⟨a.toNat, (by first | decide | omega)⟩ : Fin 128).val : Nat) : Int) = a by show ((a.toNat : Nat) : Int) = a; omega] at h
  exact h
theorem C_force {K : zK} {e : Int} {F : zF} {B : zB} (he : 0 ≤ e ∧ e < K.2 1) (hl : 0 ≤ F 1 e 8 ∧ F 1 e 8 ≤ 7) : f_Performance_force K e F B = some (foV (F 1 e 7) (F 1 e 8), F, B) := by
  unfold f_Performance_force f_Performance_force_25 foV zmin
  rw [if_pos he, C_has he, zb_s]
  by_cases a : zand (F 1 e 7) 16 = 0
  · rw [if_pos a, if_pos (by decide), if_pos rfl, if_pos (by unfold r32; omega), if_pos a]
    by_cases b : 20 + 13 * F 1 e 8 + 0 ≤ 127
    · rw [if_pos b, if_neg (by first | decide | omega)]
    · rw [if_neg b, if_pos (by first | decide | omega)]
  · rw [if_neg a, if_pos (by decide), if_neg (by decide), if_pos (by unfold r32; omega), if_neg a]
    by_cases b : 20 + 13 * F 1 e 8 + 15 ≤ 127
    · rw [if_pos b, if_neg (by first | decide | omega)]
    · rw [if_neg b, if_pos (by first | decide | omega)]
/-- the reference's table of forces -/
def T61 (Bm : zB) : Prop := ∀ l, 0 ≤ l → l < 8 → Bm 14 0 61 l = 20 + 13 * l
theorem L_force {K : Nat} {w x : Int} {F : zF} {B : zB} (hT : T61 B) (w0 : 0 ≤ w ∧ w < 3) (x0 : 0 ≤ x ∧ x < 4000) (hm : 0 ≤ B 13 w 18 x ∧ B 13 w 18 x < 128) (hl : 0 ≤ B 13 w 19 x ∧ B 13 w 19 x ≤ 7) : f_M_forceOf K w x F B = some (foV (B 13 w 18 x) (B 13 w 19 x), F, B) := by
  obtain ⟨_, m16, _, _⟩ := mk8_i hm.1 hm.2
  unfold f_M_forceOf f_M_forceOf_29 f_M_forceOf_43 foV
  rw [if_pos w0, if_pos x0, if_pos (by first | decide | omega), if_pos (zand_R _ _), hT _ hl.1 (by first | decide | omega)]
  by_cases a : zand (B 13 w 18 x) 16 = 0
  · rw [if_pos (show zand (B 13 w 18 x) 16 ≤ 0 by omega), if_pos (show r32 (20 + 13 * B 13 w 19 x + 0) by unfold r32; omega), if_pos a]
    by_cases b : 20 + 13 * B 13 w 19 x + 0 ≤ 127
    · rw [if_pos b, if_pos b]
    · rw [if_neg b, if_neg b]
  · rw [if_neg (show ¬ zand (B 13 w 18 x) 16 ≤ 0 by omega), if_pos (show r32 (20 + 13 * B 13 w 19 x + 15) by unfold r32; omega), if_neg a]
    by_cases b : 20 + 13 * B 13 w 19 x + 15 ≤ 127
    · rw [if_pos b, if_pos b]
    · rw [if_neg b, if_neg b]
/-- the tone of a pitch -/
theorem C_tone {K : zK} {e k : Int} {F : zF} {B : zB} (he : 0 ≤ e ∧ e < K.2 1) (k0 : 0 ≤ k ∧ k < 6) (hs : 0 ≤ B 1 e 12 k ∧ B 1 e 12 k ≤ 62) : f_Event_tone K e k F B = some (tnv (B 1 e 12 k) + B 1 e 13 k, F, B) := by
  unfold f_Event_tone
  rw [if_pos he, if_pos k0, C_nat hs.1 hs.2, zb_s]
theorem L_toneT {K : Nat} {s a : Int} {F : zF} {B : zB} (h0 : 0 ≤ s) (h1 : s ≤ 62) : f_M_tone K s a F B = some (tnv s + a, F, B) := by
  rw [L_tone h0 (by first | decide | omega)]
  rfl
theorem tnv_r {s a : Int} (h0 : 0 ≤ s) (h1 : s ≤ 62) (a0 : -2 ≤ a) (a1 : a ≤ 2) : 0 ≤ tnv s + a ∧ tnv s + a ≤ 127 := by
  unfold tnv
  split <;> omega
/-- a pitch that an event has is found -/
theorem fP_i {rs ra : Int → Int} {c s a k : Int} (k1 : k < c) (e1 : rs k = s) (e2 : ra k = a) : ∀ (n : Nat) (j : Int), 0 ≤ j → j ≤ k → k - j < n → 0 ≤ fP rs ra c s a n j := by
  intro n
  induction n with
  | zero => intro j _ _ h; exfalso; omega
  | succ n ih =>
    intro j j0 jk h
    unfold fP
    split
    · omega
    · split
      · exact j0
      · rename_i h1 h2
        by_cases e : j = k
        · exfalso
          apply h2
          subst e
          exact ⟨e1, e2⟩
        · exact ih (j + 1) (by first | decide | omega) (by first | decide | omega) (by first | decide | omega)
end
end
section
section
/-! ===== pitches that hold on, both sides ===== -/
/-- where event e has the pitch s a, or below 0 -/
def hpB (e s a : Int) (F : zF) (B : zB) : Int := fP (B 1 e 12) (B 1 e 13) (F 1 e 10) s a 7 0
theorem hpB_b {e s a w x : Int} {F : zF} {B Bm : zB} (h : EVK w e x F B Bm) : -1 ≤ hpB e s a F B ∧ hpB e s a F B < 7 := fP_r (Int.le_refl _) h.2.2.2.2.2.2.2.2.2.2.2.2.1.2
theorem C_hpE {K : zK} {e s a w x : Int} {F : zF} {B Bm : zB} (hK : 3002 ≤ K.1) (he : 0 ≤ e ∧ e < K.2 1) (h : EVK w e x F B Bm) (rs : r32 s) (ra : r32 a) : f_Event_hasPitch K e s a F B = some (if hpB e s a F B < 0 then 0 else 1, F, B) := by
  have ep := h.2.2.2.2.2.2.2.2.2.2
  exact C_hasP hK he rfl ep.2.2.1.2 ep.2.2.1.1 (fun k k0 k1 => by have := ep.2.2.2.1 k k0 k1; unfold r32; omega) rs ra
theorem L_hpE {K : Nat} {e s a w x : Int} {F : zF} {B : zB} {Fm : zF} {Bm : zB} (hK : 3002 ≤ K) (w0 : 0 ≤ w ∧ w < 3) (hx : 0 ≤ x ∧ x < 4000) (h : EVK w e x F B Bm) (rs : r32 s) (ra : r32 a) : f_M_has K w x s a Fm Bm = some (hpB e s a F B, Fm, Bm) := by
  have ep := h.2.2.2.2.2.2.2.2.2.2
  rw [L_hasM hK w0 hx ep.2.1 ep.2.2.1.2 ep.2.2.1.1 (fun k k0 k1 => by have := ep.2.2.2.1 k k0 k1; unfold r32; omega) rs ra]
  unfold hpB
  rw [fP_c (rs' := fun k => Bm 13 w 28 (6 * x + k)) (ra' := fun k => Bm 13 w 29 (6 * x + k)) (fun j p r => ⟨(ep.2.2.2.1 j p r).1, (ep.2.2.2.1 j p r).2.1⟩)]
theorem hpB_i {e k w x : Int} {F : zF} {B Bm : zB} (h : EVK w e x F B Bm) (k0 : 0 ≤ k) (k1 : k < F 1 e 10) : 0 ≤ hpB e (B 1 e 12 k) (B 1 e 13 k) F B := by
  have ep := h.2.2.2.2.2.2.2.2.2.2.2.2.1
  exact fP_i k1 rfl rfl 7 0 (Int.le_refl _) k0 (by first | decide | omega)
/-- a voice as both sides keep it -/
def VS (K : zK) (q u w : Int) (m : Nat) (g : Int → Int) (F : zF) (B Bm : zB) : Prop := (0 ≤ q ∧ q < K.2 4) ∧ (0 ≤ w ∧ w < 3) ∧ (0 ≤ u ∧ u < 4) ∧ (F 4 q 6 = m ∧ 1 ≤ m ∧ m ≤ 200) ∧ Bm 13 w 12 u = m ∧ (∀ t : Int, 0 ≤ t → t < m → 0 ≤ B 4 q 5 t ∧ B 4 q 5 t < K.2 1) ∧ (∀ j : Int, 0 ≤ j → j < m → 1 ≤ g j) ∧ sumZ g m ≤ 1000000000000 ∧ (∀ i : Nat, i < m → EVK w (B 4 q 5 i) (1000 * u + i) F B Bm ∧ F 1 (B 4 q 5 i) 0 = sumZ g i ∧ Bm 13 w 14 (1000 * u + i) = nu (sumZ g i) ∧ Bm 13 w 15 (1000 * u + i) = de (sumZ g i) ∧ F 1 (B 4 q 5 i) 1 = g i ∧ (F 1 (B 4 q 5 i) 11 = Bm 13 w 27 (1000 * u + i) ∧ (F 1 (B 4 q 5 i) 11 = 0 ∨ F 1 (B 4 q 5 i) 11 = 1)) ∧ TIk q m F B i)
theorem VS_of {K : zK} {q u w bar : Int} {m : Nat} {g : Int → Int} {F : zF} {B Bm : zB} (h : VK K q u w m bar g F B Bm) (w0 : 0 ≤ w ∧ w < 3) (u0 : 0 ≤ u ∧ u < 4) (hb : 100 * bar ≤ 1000000000000) : VS K q u w m g F B Bm := by
  obtain ⟨a1, a4, a5, a6, a7, a8, a9, a10, c, nw, qn, gb⟩ := h
  refine ⟨qn.1, w0, u0, a1, a4, fun t t0 t1 => (qn.2.2.2.2.2.1 t t0 t1).1, a5, (by first | decide | omega), fun i hi => ?_⟩
  obtain ⟨ev, q1, q2, q3, q4⟩ := a8 i hi
  exact ⟨ev, q1, q2, q3, q4, a9 i hi, a10.2.2.2 i hi⟩
/-- event i holds the pitch s a on -/
def tieOn (q : Int) (i s a : Int) (F : zF) (B : zB) : Prop := ¬ zand (F 1 (B 4 q 5 i) 7) 1 = 0 ∧ 0 ≤ hpB (B 4 q 5 i) s a F B ∧ 0 ≤ hpB (B 4 q 5 (i + 1)) s a F B
theorem L_tiesE {K : zK} {Km : Nat} {q u w s a : Int} {m i : Nat} {g : Int → Int} {F : zF} {B : zB} {Fm : zF} {Bm : zB} (hKm : 3002 ≤ Km) (h : VS K q u w m g F B Bm) (hi : i < m) (rs : r32 s) (ra : r32 a) : (tieOn q i s a F B → f_M_ties Km w (1000 * u + i) s a Fm Bm = some (1, Fm, Bm)) ∧ (¬ tieOn q i s a F B → f_M_ties Km w (1000 * u + i) s a Fm Bm = some (0, Fm, Bm)) := by
  obtain ⟨h4, w0, u0, hm, _, hV, _, _, hE⟩ := h
  obtain ⟨ei, _, _, _, _, _, ti⟩ := hE i hi
  have e7 := ei.2.2.2.2.2.2.2.1
  obtain ⟨y1, _, _⟩ := mkb_i e7.2.1 e7.2.2
  have hx : 0 ≤ 1000 * u + (i : Int) ∧ 1000 * u + (i : Int) < 4000 := by omega
  have b1 := hpB_b (s := s) (a := a) ei
  unfold f_M_ties f_M_ties_37 f_M_ties_38 tieOn
  rw [if_pos w0, if_pos hx, if_pos (zand_R _ _), ← e7.1]
  by_cases z : zand (F 1 (B 4 q 5 i) 7) 1 = 0
  · rw [if_pos (show zand (F 1 (B 4 q 5 i) 7) 1 ≤ 0 by omega), if_pos (Or.inl rfl)]
    exact ⟨fun t => absurd z t.1, fun _ => rfl⟩
  · rw [if_neg (show ¬ zand (F 1 (B 4 q 5 i) 7) 1 ≤ 0 by omega), L_hpE hKm w0 hx ei rs ra, zb_s, if_pos (by unfold r32; omega)]
    by_cases y : hpB (B 4 q 5 i) s a F B < 0
    · rw [if_pos y, if_pos (Or.inl rfl)]
      exact ⟨fun t => (by first | decide | omega), fun _ => rfl⟩
    · have hi1 : i + 1 < m := by
        unfold TIk at ti
        rcases ti with t | t
        · omega
        · exact t
      obtain ⟨en, _⟩ := hE (i + 1) hi1
      have b2 := hpB_b (s := s) (a := a) en
      have ec : ((i + 1 : Nat) : Int) = (i : Int) + 1 := by omega
      rw [ec] at en b2
      rw [if_neg y, show 1000 * u + (i : Int) + 1 = 1000 * u + ((i : Int) + 1) by omega, L_hpE hKm w0 (by first | decide | omega) en rs ra, zb_s, if_pos (by unfold r32; omega)]
      by_cases x : hpB (B 4 q 5 ((i : Int) + 1)) s a F B < 0
      · rw [if_pos x, if_pos (Or.inl rfl)]
        exact ⟨fun t => (by first | decide | omega), fun _ => rfl⟩
      · rw [if_neg x, if_pos (Or.inr rfl)]
        exact ⟨fun _ => rfl, fun t => absurd ⟨z, (by first | decide | omega), (by first | decide | omega)⟩ t⟩
/-- a pitch of event i comes from the event ahead -/
theorem C_from {K : zK} {q u w k : Int} {m i : Nat} {g : Int → Int} {F : zF} {B Bm : zB} (hK : 3002 ≤ K.1) (h : VS K q u w m g F B Bm) (hi : i < m) (k0 : 0 ≤ k) (k1 : k < F 1 (B 4 q 5 i) 10) : ((0 < i ∧ tieOn q (i - 1) (B 1 (B 4 q 5 i) 12 k) (B 1 (B 4 q 5 i) 13 k) F B) → f_Part_isTiedFrom K q i k F B = some (1, F, B)) ∧ (¬ (0 < i ∧ tieOn q (i - 1) (B 1 (B 4 q 5 i) 12 k) (B 1 (B 4 q 5 i) 13 k) F B) → f_Part_isTiedFrom K q i k F B = some (0, F, B)) := by
  obtain ⟨h4, w0, u0, hm, _, hV, _, _, hE⟩ := h
  obtain ⟨ei, _⟩ := hE i hi
  have ep := ei.2.2.2.2.2.2.2.2.2.2
  have c6 := ep.2.2.1
  have pk := ep.2.2.2.1 k k0 k1
  have oi := hpB_i ei k0 k1
  unfold f_Part_isTiedFrom f_Part_isTiedFrom_56 f_Part_isTiedFrom_57
  rw [if_pos h4, if_pos (by first | decide | omega), if_pos (by unfold r32; omega)]
  by_cases z : (i : Int) ≤ 0
  · rw [if_pos z, if_pos (Or.inl rfl)]
    exact ⟨fun t => (by first | decide | omega), fun _ => rfl⟩
  · obtain ⟨j, hj⟩ : ∃ j, i = j + 1 := ⟨i - 1, (by first | decide | omega)⟩
    subst hj
    have ej : ((j + 1 : Nat) : Int) - 1 = (j : Int) := by omega
    have ej2 : (((j + 1 : Nat) : Int)) = (j : Int) + 1 := by omega
    obtain ⟨el, _⟩ := hE j (by first | decide | omega)
    have b1 := hpB_b (s := B 1 (B 4 q 5 ((j + 1 : Nat) : Int)) 12 k) (a := B 1 (B 4 q 5 ((j + 1 : Nat) : Int)) 13 k) el
    rw [if_neg z, ej, if_pos (by first | decide | omega), if_pos (hV j (by first | decide | omega) (by first | decide | omega)), C_has (hV j (by first | decide | omega) (by first | decide | omega)), zb_s]
    unfold tieOn
    by_cases y : zand (F 1 (B 4 q 5 j) 7) 1 = 0
    · rw [if_pos y, if_pos (by decide), if_pos rfl, if_pos (Or.inl rfl)]
      exact ⟨fun t => absurd y t.2.1, fun _ => rfl⟩
    · rw [if_neg y, if_pos (by decide), if_neg (by decide), if_pos (hV _ (by first | decide | omega) (by first | decide | omega)), if_pos (by first | decide | omega), if_pos (hV j (by first | decide | omega) (by first | decide | omega)), C_hpE hK (hV j (by first | decide | omega) (by first | decide | omega)) el (by unfold r32; omega) (by unfold r32; omega), zb_s]
      by_cases x : hpB (B 4 q 5 j) (B 1 (B 4 q 5 ((j + 1 : Nat) : Int)) 12 k) (B 1 (B 4 q 5 ((j + 1 : Nat) : Int)) 13 k) F B < 0
      · rw [if_pos x, if_pos (by decide), if_pos rfl, if_pos (Or.inl rfl)]
        exact ⟨fun t => (by first | decide | omega), fun _ => rfl⟩
      · rw [if_neg x, if_pos (by decide), if_neg (by decide), if_pos (Or.inr rfl)]
        refine ⟨fun _ => rfl, fun t => absurd ⟨(by first | decide | omega), y, (by first | decide | omega), ?_⟩ t⟩
        rw [← ej2]
        exact oi
end
end
