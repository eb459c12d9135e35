section
/-! ===== ties and slurs judged, both sides ===== -/
theorem mkb_f : ∀ a : Fin 128, (zand (a.val : Int) 1 = 0 ∨ zand (a.val : Int) 1 = 1) ∧ (zand (a.val : Int) 2 = 0 ∨ zand (a.val : Int) 2 = 2) ∧ (zand (a.val : Int) 4 = 0 ∨ zand (a.val : Int) 4 = 4) := by decide +kernel
theorem mkb_i {a : Int} (h0 : 0 ≤ a) (h1 : a < 128) : (zand a 1 = 0 ∨ zand a 1 = 1) ∧ (zand a 2 = 0 ∨ zand a 2 = 2) ∧ (zand a 4 = 0 ∨ zand a 4 = 4) := by
  have h := mkb_f ⟨a.toNat, (by first | decide | omega)⟩
  rw [show (((⟨a.toNat, (by first | decide | omega)⟩ : Fin 128).val : Nat) : Int) = a by show ((a.toNat : Nat) : Int) = a; omega] at h
  exact h
/-- whether a slur is open behind an event with marks a -/
def opN (a op : Int) : Int := if zand a 2 = 0 then (if zand a 4 = 0 then op else 0) else 1
/-- the event's slurs don't stand -/
def slX (a op : Int) : Prop := (¬ zand a 4 = 0 ∧ op = 0) ∨ (¬ zand a 2 = 0 ∧ ¬ op = 0 ∧ zand a 4 = 0)
theorem opN_b {a op : Int} (h : op = 0 ∨ op = 1) : opN a op = 0 ∨ opN a op = 1 := by
  unfold opN
  split
  · split
    · exact h
    · exact Or.inl rfl
  · exact Or.inr rfl
theorem L_176 {K : Nat} {rec : Int → Int → Int → zF → zB → zO} {a x i op l1 w : Int} {F : zF} {B : zB} (a0 : 0 ≤ a) (a1 : a < 128) (hop : op = 0 ∨ op = 1) (hw : F 14 0 6 = w) (w0 : 0 ≤ w ∧ w < 3) (hx : 0 ≤ x ∧ x < 4000) (h20 : 0 ≤ B 13 w 20 x ∧ B 13 w 20 x ≤ 3000) (hb : F 14 0 17 = 0 ∨ bad F) : ∃ G, f_M_judge_176 rec K a x i op l1 F B = rec (i + 1) (opN a op) l1 G (zup4 B 13 w 27 x (opN a op)) ∧ ((bad F → G = F) ∧ (F 14 0 17 = 0 → ¬ slX a op → G = F) ∧ (F 14 0 17 = 0 → slX a op → G = flM F B 11 (B 13 w 20 x))) := by
  obtain ⟨_, h2, h4⟩ := mkb_i a0 a1
  have ro : r32 op := by unfold r32; omega
  have r2 : r32 (zand a 2) := by unfold r32; omega
  have r4 : r32 (zand a 4) := by unfold r32; omega
  have f20 : 0 ≤ B 13 w 20 x ∧ B 13 w 20 x < 3001 := by omega
  have fl : ∀ G : zF, G 14 0 17 = 0 ∨ bad G → f_M_failAt K 11 (B 13 w 20 x) G B = some (0, if G 14 0 17 = 0 then flM G B 11 (B 13 w 20 x) else G, B) := fun G h => by
    rcases h with h | h
    · rw [L_failAt h f20, if_pos h]
    · rw [L_failAtB h, if_neg (by unfold bad at h; omega)]
  have nb : ∀ {G : zF}, bad G → ¬ G 14 0 17 = 0 := fun h => by unfold bad at h; omega
  have e239 : ∀ (G : zF) (op' : Int), G 14 0 6 = w → op' = 0 ∨ op' = 1 → f_M_judge_239 rec K a x i op' l1 G B = rec (i + 1) (if zand a 2 = 0 then op' else 1) l1 G (zup4 B 13 w 27 x (if zand a 2 = 0 then op' else 1)) := fun G op' hG ho => by
    unfold f_M_judge_239 f_M_judge_248
    rw [if_pos r2, hG, if_pos w0, if_pos hx, if_pos ho, if_pos w0, if_pos hx, if_pos (Or.inr rfl)]
    rcases h2 with y | y
    · rw [y, if_pos (Int.le_refl _), if_pos rfl]
    · rw [y, if_neg (by decide), if_neg (by decide)]
  rcases h4 with y4 | y4
  · -- it closes no slur
    have e176 : f_M_judge_176 rec K a x i op l1 F B = f_M_judge_212 rec K a x i op l1 F B := by
      unfold f_M_judge_176 f_M_judge_203
      rw [if_pos r4, y4, if_pos (Int.le_refl _), if_pos (by decide), if_pos (Int.le_refl _)]
    rw [e176]
    unfold f_M_judge_212
    rw [if_pos r2]
    rcases h2 with y2 | y2
    · refine ⟨F, ?_, fun _ => rfl, fun _ _ => rfl, fun _ h => ?_⟩
      · rw [y2, if_pos (Int.le_refl _), e239 F op hw hop]
        unfold opN
        rw [if_pos y2, if_pos y2, if_pos y4]
      · rcases h with h | h
        · exact absurd y4 h.1
        · exact absurd y2 h.1
    · have ex : opN a op = 1 := by unfold opN; rw [if_neg (by first | decide | omega)]
      have n2 : ¬ zand a 2 = 0 := by omega
      rcases hop with rfl | rfl
      · refine ⟨F, ?_, fun _ => rfl, fun _ _ => rfl, fun _ h => ?_⟩
        · rw [if_neg (by first | decide | omega), if_pos (by decide), if_pos rfl, e239 F 0 hw (Or.inl rfl), if_neg n2, ex]
        · rcases h with h | h
          · exact absurd y4 h.1
          · exact absurd rfl h.2.1
      · rw [if_neg (by first | decide | omega), if_pos (by decide), if_neg (by decide), hw, if_pos w0, if_pos hx, fl F hb, zb_s, e239 _ 1 (by split; rw [flM_n (by decide)]; exact hw; exact hw) (Or.inr rfl), if_neg n2, ex]
        refine ⟨_, rfl, fun h => if_neg (nb h), fun _ h => absurd (Or.inr ⟨n2, by decide, y4⟩) h, fun h _ => if_pos h⟩
  · have n4 : ¬ zand a 4 = 0 := by omega
    -- a slur closes
    have e203 : ∀ G : zF, G 14 0 6 = w → f_M_judge_203 rec K a x i op l1 G B = rec (i + 1) (opN a op) l1 G (zup4 B 13 w 27 x (opN a op)) := fun G hG => by
      unfold f_M_judge_203 f_M_judge_212
      rw [if_pos r4, if_neg (by first | decide | omega), if_pos r2]
      rcases h2 with y2 | y2
      · rw [if_pos (by first | decide | omega), e239 G 0 hG (Or.inl rfl)]
        unfold opN
        rw [if_pos y2, if_pos y2, if_neg n4]
      · rw [if_neg (by first | decide | omega), if_pos (by decide), if_pos rfl, e239 G 0 hG (Or.inl rfl)]
        unfold opN
        rw [if_neg (by first | decide | omega), if_neg (by first | decide | omega)]
    unfold f_M_judge_176
    rw [if_pos r4, if_neg (by first | decide | omega), if_pos ro]
    rcases hop with rfl | rfl
    · rw [if_pos rfl, hw, if_pos w0, if_pos hx, fl F hb, zb_s, e203 _ (by split; rw [flM_n (by decide)]; exact hw; exact hw)]
      exact ⟨_, rfl, fun h => if_neg (nb h), fun _ h => absurd (Or.inl ⟨n4, rfl⟩) h, fun h _ => if_pos h⟩
    · rw [if_neg (by decide), e203 F hw]
      refine ⟨F, rfl, fun _ => rfl, fun _ _ => rfl, fun _ h => ?_⟩
      rcases h with h | h
      · exact absurd h.2 (by decide)
      · exact absurd h.2.2 n4
theorem L_48X {K n : Nat} {i op l1 v : Int} {F : zF} {B : zB} (hb : bad F) (hop : op = 0 ∨ op = 1) (ri : r32 i) (r36 : r32 (F 14 0 36)) (h35 : F 14 0 35 = v) (v0 : 0 ≤ v ∧ v < 4) : f_M_judge_48 K (n + 1) i op l1 F B = some (0, F, B) := by
  have e265 : f_M_judge_265 K op F B = some (0, F, B) := by
    have e284 : f_M_judge_284 K F B = some (0, F, B) := by
      unfold f_M_judge_284 f_M_judge_325
      rw [L_goodB hb, zb_s, if_pos (by decide), if_pos rfl]
    unfold f_M_judge_265
    rcases hop with rfl | rfl
    · rw [if_pos (by decide), if_pos rfl, e284]
    · rw [if_pos (by decide), if_neg (by decide), h35, if_pos v0, L_failAtB hb, zb_s, e284]
  rw [joS_e, if_pos ri, if_pos r36]
  by_cases c : F 14 0 36 ≤ i
  · rw [if_pos c, e265]
  · rw [if_neg c, L_goodB hb, zb_s, if_pos (by decide), if_pos rfl, e265]
/-- the class's part of the step behind the tie -/
theorem C_95 {K : zK} {rec : Int → Int → Int → Int → zF → zB → zO} {e i op q p : Int} {F : zF} {B : zB} (he : 0 ≤ e ∧ e < K.2 1) (a0 : 0 ≤ F 1 e 7) (a1 : F 1 e 7 < 128) (hop : op = 0 ∨ op = 1) : (¬ slX (F 1 e 7) op → f_Part_judge_95 rec K e i op q p F B = rec (i + 1) (opN (F 1 e 7) op) q p (zup3 F 1 e 11 (opN (F 1 e 7) op)) B) ∧ (slX (F 1 e 7) op → f_Part_judge_95 rec K e i op q p F B = some (11 + 16 * F 1 e 9, F, B)) := by
  obtain ⟨_, h2, h4⟩ := mkb_i a0 a1
  unfold f_Part_judge_95 f_Part_judge_112 f_Part_judge_113 f_Part_judge_128 f_Part_judge_154 f_Part_judge_168 f_Part_judge_173 f_Part_judge_142
  simp only [C_has he, zb_s, if_pos he]
  generalize F 1 e 7 = a at *
  have n24 : ¬ (2 : Int) = 0 := by decide
  have n44 : ¬ (4 : Int) = 0 := by decide
  have n1 : ¬ (1 : Int) = 0 := by decide
  have r0 : r32 0 := by decide
  have r1 : r32 1 := by decide
  rcases hop with rfl | rfl
  · rcases h4 with y4 | y4
    · rcases h2 with y2 | y2
      · have sx : ¬ slX a 0 := fun h => by rcases h with h | h; exact h.1 y4; exact h.1 y2
        have ox : opN a 0 = 0 := by unfold opN; rw [if_pos y2, if_pos y4]
        refine ⟨fun _ => ?_, fun h => absurd h sx⟩
        rw [ox, y4, y2]
        simp
        simp only [if_pos r0, if_pos r1]
      · have sx : ¬ slX a 0 := fun h => by rcases h with h | h; exact h.1 y4; exact h.2.1 rfl
        have ox : opN a 0 = 1 := by unfold opN; rw [if_neg (by first | decide | omega)]
        refine ⟨fun _ => ?_, fun h => absurd h sx⟩
        rw [ox, y4, y2]
        simp
        simp only [if_pos r0, if_pos r1]
    · have sx : slX a 0 := Or.inl ⟨(by first | decide | omega), rfl⟩
      refine ⟨fun h => absurd sx h, fun _ => ?_⟩
      rw [y4]
      simp
      decide
  · rcases h4 with y4 | y4
    · rcases h2 with y2 | y2
      · have sx : ¬ slX a 1 := fun h => by rcases h with h | h; exact h.1 y4; exact h.1 y2
        have ox : opN a 1 = 1 := by unfold opN; rw [if_pos y2, if_pos y4]
        refine ⟨fun _ => ?_, fun h => absurd h sx⟩
        rw [ox, y4, y2]
        simp
        simp only [if_pos r0, if_pos r1]
      · have sx : slX a 1 := Or.inr ⟨(by first | decide | omega), by decide, y4⟩
        refine ⟨fun h => absurd sx h, fun _ => ?_⟩
        rw [y4, y2]
        simp
        decide
    · have n4 : ¬ zand a 4 = 0 := by omega
      rcases h2 with y2 | y2
      · have sx : ¬ slX a 1 := fun h => by rcases h with h | h; exact absurd h.2 (by decide); exact n4 h.2.2
        have ox : opN a 1 = 0 := by unfold opN; rw [if_pos y2, if_neg n4]
        refine ⟨fun _ => ?_, fun h => absurd h sx⟩
        rw [ox, y4, y2]
        simp
        simp only [if_pos r0, if_pos r1]
      · have sx : ¬ slX a 1 := fun h => by rcases h with h | h; exact absurd h.2 (by decide); exact n4 h.2.2
        have ox : opN a 1 = 1 := by unfold opN; rw [if_neg (by first | decide | omega)]
        refine ⟨fun _ => ?_, fun h => absurd h sx⟩
        rw [ox, y4, y2]
        simp
        simp only [if_pos r0, if_pos r1]
end
