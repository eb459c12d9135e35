section
/-! ===== pitches that hold on, both sides ===== -/
/-- where event e has the pitch s a, or below 0 -/
def hpB (e s a : Int) (F : zF) (B : zB) : Int := fP (B 1 e 12) (B 1 e 13) (F 1 e 10) s a 7 0
theorem hpB_b {e s a w x : Int} {F : zF} {B Bm : zB} (h : EVK w e x F B Bm) : -1 ≤ hpB e s a F B ∧ hpB e s a F B < 7 := fP_r (Int.le_refl _) h.2.2.2.2.2.2.2.2.2.2.2.2.1.2
theorem C_hpE {K : zK} {e s a w x : Int} {F : zF} {B Bm : zB} (hK : 3002 ≤ K.1) (he : 0 ≤ e ∧ e < K.2 1) (h : EVK w e x F B Bm) (rs : r32 s) (ra : r32 a) : f_Event_hasPitch K e s a F B = some (if hpB e s a F B < 0 then 0 else 1, F, B) := by
  have ep := h.2.2.2.2.2.2.2.2.2.2
  exact C_hasP hK he rfl ep.2.2.1.2 ep.2.2.1.1 (fun k k0 k1 => by have := ep.2.2.2.1 k k0 k1; unfold r32; omega) rs ra
theorem L_hpE {K : Nat} {e s a w x : Int} {F : zF} {B : zB} {Fm : zF} {Bm : zB} (hK : 3002 ≤ K) (w0 : 0 ≤ w ∧ w < 3) (hx : 0 ≤ x ∧ x < 4000) (h : EVK w e x F B Bm) (rs : r32 s) (ra : r32 a) : f_M_has K w x s a Fm Bm = some (hpB e s a F B, Fm, Bm) := by
  have ep := h.2.2.2.2.2.2.2.2.2.2
  rw [L_hasM hK w0 hx ep.2.1 ep.2.2.1.2 ep.2.2.1.1 (fun k k0 k1 => by have := ep.2.2.2.1 k k0 k1; unfold r32; omega) rs ra]
  unfold hpB
  rw [fP_c (rs' := fun k => Bm 13 w 28 (6 * x + k)) (ra' := fun k => Bm 13 w 29 (6 * x + k)) (fun j p r => ⟨(ep.2.2.2.1 j p r).1, (ep.2.2.2.1 j p r).2.1⟩)]
theorem hpB_i {e k w x : Int} {F : zF} {B Bm : zB} (h : EVK w e x F B Bm) (k0 : 0 ≤ k) (k1 : k < F 1 e 10) : 0 ≤ hpB e (B 1 e 12 k) (B 1 e 13 k) F B := by
  have ep := h.2.2.2.2.2.2.2.2.2.2.2.2.1
  exact fP_i k1 rfl rfl 7 0 (Int.le_refl _) k0 (by omega)
/-- a voice as both sides keep it -/
def VS (K : zK) (q u w : Int) (m : Nat) (g : Int → Int) (F : zF) (B Bm : zB) : Prop := (0 ≤ q ∧ q < K.2 4) ∧ (0 ≤ w ∧ w < 3) ∧ (0 ≤ u ∧ u < 4) ∧ (F 4 q 6 = m ∧ 1 ≤ m ∧ m ≤ 200) ∧ Bm 13 w 12 u = m ∧ (∀ t : Int, 0 ≤ t → t < m → 0 ≤ B 4 q 5 t ∧ B 4 q 5 t < K.2 1) ∧ (∀ j : Int, 0 ≤ j → j < m → 1 ≤ g j) ∧ sumZ g m ≤ 1000000000000 ∧ (∀ i : Nat, i < m → EVK w (B 4 q 5 i) (1000 * u + i) F B Bm ∧ F 1 (B 4 q 5 i) 0 = sumZ g i ∧ Bm 13 w 14 (1000 * u + i) = nu (sumZ g i) ∧ Bm 13 w 15 (1000 * u + i) = de (sumZ g i) ∧ F 1 (B 4 q 5 i) 1 = g i ∧ (F 1 (B 4 q 5 i) 11 = Bm 13 w 27 (1000 * u + i) ∧ (F 1 (B 4 q 5 i) 11 = 0 ∨ F 1 (B 4 q 5 i) 11 = 1)) ∧ TIk q m F B i)
theorem VS_of {K : zK} {q u w bar : Int} {m : Nat} {g : Int → Int} {F : zF} {B Bm : zB} (h : VK K q u w m bar g F B Bm) (w0 : 0 ≤ w ∧ w < 3) (u0 : 0 ≤ u ∧ u < 4) (hb : 100 * bar ≤ 1000000000000) : VS K q u w m g F B Bm := by
  obtain ⟨a1, a4, a5, a6, a7, a8, a9, a10, c, nw, qn, gb⟩ := h
  refine ⟨qn.1, w0, u0, a1, a4, fun t t0 t1 => (qn.2.2.2.2.2.1 t t0 t1).1, a5, by omega, fun i hi => ?_⟩
  obtain ⟨ev, q1, q2, q3, q4⟩ := a8 i hi
  exact ⟨ev, q1, q2, q3, q4, a9 i hi, a10.2.2.2 i hi⟩
/-- event i holds the pitch s a on -/
def tieOn (q : Int) (i s a : Int) (F : zF) (B : zB) : Prop := ¬ zand (F 1 (B 4 q 5 i) 7) 1 = 0 ∧ 0 ≤ hpB (B 4 q 5 i) s a F B ∧ 0 ≤ hpB (B 4 q 5 (i + 1)) s a F B
theorem L_tiesE {K : zK} {Km : Nat} {q u w s a : Int} {m i : Nat} {g : Int → Int} {F : zF} {B : zB} {Fm : zF} {Bm : zB} (hKm : 3002 ≤ Km) (h : VS K q u w m g F B Bm) (hi : i < m) (rs : r32 s) (ra : r32 a) : (tieOn q i s a F B → f_M_ties Km w (1000 * u + i) s a Fm Bm = some (1, Fm, Bm)) ∧ (¬ tieOn q i s a F B → f_M_ties Km w (1000 * u + i) s a Fm Bm = some (0, Fm, Bm)) := by
  obtain ⟨h4, w0, u0, hm, _, hV, _, _, hE⟩ := h
  obtain ⟨ei, _, _, _, _, _, ti⟩ := hE i hi
  have e7 := ei.2.2.2.2.2.2.2.1
  obtain ⟨y1, _, _⟩ := mkb_i e7.2.1 e7.2.2
  have hx : 0 ≤ 1000 * u + (i : Int) ∧ 1000 * u + (i : Int) < 4000 := by omega
  have b1 := hpB_b (s := s) (a := a) ei
  unfold f_M_ties f_M_ties_37 f_M_ties_38 tieOn
  rw [if_pos w0, if_pos hx, if_pos (zand_R _ _), ← e7.1]
  by_cases z : zand (F 1 (B 4 q 5 i) 7) 1 = 0
  · rw [if_pos (show zand (F 1 (B 4 q 5 i) 7) 1 ≤ 0 by omega), if_pos (Or.inl rfl)]
    exact ⟨fun t => absurd z t.1, fun _ => rfl⟩
  · rw [if_neg (show ¬ zand (F 1 (B 4 q 5 i) 7) 1 ≤ 0 by omega), L_hpE hKm w0 hx ei rs ra, zb_s, if_pos (by unfold r32; omega)]
    by_cases y : hpB (B 4 q 5 i) s a F B < 0
    · rw [if_pos y, if_pos (Or.inl rfl)]
      exact ⟨fun t => by omega, fun _ => rfl⟩
    · have hi1 : i + 1 < m := by
        unfold TIk at ti
        rcases ti with t | t
        · omega
        · exact t
      obtain ⟨en, _⟩ := hE (i + 1) hi1
      have b2 := hpB_b (s := s) (a := a) en
      have ec : ((i + 1 : Nat) : Int) = (i : Int) + 1 := by omega
      rw [ec] at en b2
      rw [if_neg y, show 1000 * u + (i : Int) + 1 = 1000 * u + ((i : Int) + 1) by omega, L_hpE hKm w0 (by omega) en rs ra, zb_s, if_pos (by unfold r32; omega)]
      by_cases x : hpB (B 4 q 5 ((i : Int) + 1)) s a F B < 0
      · rw [if_pos x, if_pos (Or.inl rfl)]
        exact ⟨fun t => by omega, fun _ => rfl⟩
      · rw [if_neg x, if_pos (Or.inr rfl)]
        exact ⟨fun _ => rfl, fun t => absurd ⟨z, by omega, by omega⟩ t⟩
/-- a pitch of event i comes from the event ahead -/
theorem C_from {K : zK} {q u w k : Int} {m i : Nat} {g : Int → Int} {F : zF} {B Bm : zB} (hK : 3002 ≤ K.1) (h : VS K q u w m g F B Bm) (hi : i < m) (k0 : 0 ≤ k) (k1 : k < F 1 (B 4 q 5 i) 10) : ((0 < i ∧ tieOn q (i - 1) (B 1 (B 4 q 5 i) 12 k) (B 1 (B 4 q 5 i) 13 k) F B) → f_Part_isTiedFrom K q i k F B = some (1, F, B)) ∧ (¬ (0 < i ∧ tieOn q (i - 1) (B 1 (B 4 q 5 i) 12 k) (B 1 (B 4 q 5 i) 13 k) F B) → f_Part_isTiedFrom K q i k F B = some (0, F, B)) := by
  obtain ⟨h4, w0, u0, hm, _, hV, _, _, hE⟩ := h
  obtain ⟨ei, _⟩ := hE i hi
  have ep := ei.2.2.2.2.2.2.2.2.2.2
  have c6 := ep.2.2.1
  have pk := ep.2.2.2.1 k k0 k1
  have oi := hpB_i ei k0 k1
  unfold f_Part_isTiedFrom f_Part_isTiedFrom_56 f_Part_isTiedFrom_57
  rw [if_pos h4, if_pos (by omega), if_pos (by unfold r32; omega)]
  by_cases z : (i : Int) ≤ 0
  · rw [if_pos z, if_pos (Or.inl rfl)]
    exact ⟨fun t => by omega, fun _ => rfl⟩
  · obtain ⟨j, hj⟩ : ∃ j, i = j + 1 := ⟨i - 1, by omega⟩
    subst hj
    have ej : ((j + 1 : Nat) : Int) - 1 = (j : Int) := by omega
    have ej2 : (((j + 1 : Nat) : Int)) = (j : Int) + 1 := by omega
    obtain ⟨el, _⟩ := hE j (by omega)
    have b1 := hpB_b (s := B 1 (B 4 q 5 ((j + 1 : Nat) : Int)) 12 k) (a := B 1 (B 4 q 5 ((j + 1 : Nat) : Int)) 13 k) el
    rw [if_neg z, ej, if_pos (by omega), if_pos (hV j (by omega) (by omega)), C_has (hV j (by omega) (by omega)), zb_s]
    unfold tieOn
    by_cases y : zand (F 1 (B 4 q 5 j) 7) 1 = 0
    · rw [if_pos y, if_pos (by decide), if_pos rfl, if_pos (Or.inl rfl)]
      exact ⟨fun t => absurd y t.2.1, fun _ => rfl⟩
    · rw [if_neg y, if_pos (by decide), if_neg (by decide), if_pos (hV _ (by omega) (by omega)), if_pos (by omega), if_pos (hV j (by omega) (by omega)), C_hpE hK (hV j (by omega) (by omega)) el (by unfold r32; omega) (by unfold r32; omega), zb_s]
      by_cases x : hpB (B 4 q 5 j) (B 1 (B 4 q 5 ((j + 1 : Nat) : Int)) 12 k) (B 1 (B 4 q 5 ((j + 1 : Nat) : Int)) 13 k) F B < 0
      · rw [if_pos x, if_pos (by decide), if_pos rfl, if_pos (Or.inl rfl)]
        exact ⟨fun t => by omega, fun _ => rfl⟩
      · rw [if_neg x, if_pos (by decide), if_neg (by decide), if_pos (Or.inr rfl)]
        refine ⟨fun _ => rfl, fun t => absurd ⟨by omega, y, by omega, ?_⟩ t⟩
        rw [← ej2]
        exact oi
end
