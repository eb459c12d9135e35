theorem zbL_some {x : zO} {k : Int → zF → zB → zL} {r : Int} {F : zF} {B : zB} (h : x = some (r, F, B)) : zbL x k = k r F B := by rw [h]; rfl
theorem zbM_some {x : zOm} {k : Int → zF → zB → zK → zL} {r : Int} {F : zF} {B : zB} {K : zK} (h : x = some (r, F, B, K)) : zbM x k = k r F B K := by rw [h]; rfl
theorem lst_0 {Kr : Nat} {x n i : Int} {sc : Int → Int} {K : zK} {F Fm F1 F2 : zF} {B Bm B1 B2 : zB} {r1 r2 : Int} (hi : 0 ≤ i) (hn : i + 9 ≤ n) (hx : 0 ≤ x ∧ x < K.2 12) (h1 : f_S_feed K x (sc (i + 1)) (sc (i + 2)) (sc (i + 3)) (sc (i + 4)) (sc (i + 5)) F B = some (r1, F1, B1)) (h2 : f_M_feed Kr (sc (i + 1)) (sc (i + 2)) (sc (i + 3)) (sc (i + 4)) (sc (i + 5)) Fm Bm = some (r2, F2, B2)) : ls_0 Kr x sc n i K F B Fm Bm = some (K, F1, B1, F2, B2) := by
  unfold ls_0
  rw [if_pos (show 0 ≤ (i + 1) ∧ (i + 1) < n from ⟨by omega, by omega⟩)]
  rw [if_pos (show 0 ≤ (i + 2) ∧ (i + 2) < n from ⟨by omega, by omega⟩)]
  rw [if_pos (show 0 ≤ (i + 3) ∧ (i + 3) < n from ⟨by omega, by omega⟩)]
  rw [if_pos (show 0 ≤ (i + 4) ∧ (i + 4) < n from ⟨by omega, by omega⟩)]
  rw [if_pos (show 0 ≤ (i + 5) ∧ (i + 5) < n from ⟨by omega, by omega⟩)]
  rw [if_pos hx]
  rw [zbL_some h1]
  rw [if_pos (show 0 ≤ (i + 1) ∧ (i + 1) < n from ⟨by omega, by omega⟩)]
  rw [if_pos (show 0 ≤ (i + 2) ∧ (i + 2) < n from ⟨by omega, by omega⟩)]
  rw [if_pos (show 0 ≤ (i + 3) ∧ (i + 3) < n from ⟨by omega, by omega⟩)]
  rw [if_pos (show 0 ≤ (i + 4) ∧ (i + 4) < n from ⟨by omega, by omega⟩)]
  rw [if_pos (show 0 ≤ (i + 5) ∧ (i + 5) < n from ⟨by omega, by omega⟩)]
  rw [zbL_some h2]
theorem lst_1 {Kr : Nat} {x n i : Int} {sc : Int → Int} {K : zK} {F Fm F1 F2 : zF} {B Bm B1 B2 : zB} {r1 r2 : Int} (hi : 0 ≤ i) (hn : i + 9 ≤ n) (hx : 0 ≤ x ∧ x < K.2 12) (h1 : f_S_end K x (sc (i + 1)) F B = some (r1, F1, B1)) (h2 : f_M_end Kr (sc (i + 1)) Fm Bm = some (r2, F2, B2)) : ls_1 Kr x sc n i K F B Fm Bm = some (K, F1, B1, F2, B2) := by
  unfold ls_1
  rw [if_pos (show 0 ≤ (i + 1) ∧ (i + 1) < n from ⟨by omega, by omega⟩)]
  rw [if_pos hx]
  rw [zbL_some h1]
  rw [if_pos (show 0 ≤ (i + 1) ∧ (i + 1) < n from ⟨by omega, by omega⟩)]
  rw [zbL_some h2]
theorem lst_2 {Kr : Nat} {x n i : Int} {sc : Int → Int} {K K1 : zK} {F Fm F1 F2 : zF} {B Bm B1 B2 : zB} {r1 r2 : Int} (hi : 0 ≤ i) (hn : i + 9 ≤ n) (hx : 0 ≤ x ∧ x < K.2 12) (h1 : f_S_read K x (sc (i + 1)) F B = some (r1, F1, B1, K1)) (h2 : f_M_read Kr (sc (i + 1)) Fm Bm = some (r2, F2, B2)) : ls_2 Kr x sc n i K F B Fm Bm = some (K1, F1, B1, F2, B2) := by
  unfold ls_2
  rw [if_pos (show 0 ≤ (i + 1) ∧ (i + 1) < n from ⟨by omega, by omega⟩)]
  rw [if_pos hx]
  rw [zbM_some h1]
  rw [if_pos (show 0 ≤ (i + 1) ∧ (i + 1) < n from ⟨by omega, by omega⟩)]
  rw [zbL_some h2]
theorem lst_3 {Kr : Nat} {x n i : Int} {sc : Int → Int} {K K1 : zK} {F Fm F1 F2 : zF} {B Bm B1 B2 : zB} {r1 r2 : Int} (hi : 0 ≤ i) (hn : i + 9 ≤ n) (hx : 0 ≤ x ∧ x < K.2 12) (h1 : f_S_look K x (sc (i + 1)) (sc (i + 2)) F B = some (r1, F1, B1, K1)) (h2 : f_M_look Kr (sc (i + 1)) (sc (i + 2)) Fm Bm = some (r2, F2, B2)) (he : r1 = r2) : ls_3 Kr x sc n i K F B Fm Bm = some (K1, F1, B1, F2, B2) := by
  unfold ls_3
  rw [if_pos (show 0 ≤ (i + 1) ∧ (i + 1) < n from ⟨by omega, by omega⟩)]
  rw [if_pos (show 0 ≤ (i + 2) ∧ (i + 2) < n from ⟨by omega, by omega⟩)]
  rw [if_pos hx]
  rw [zbM_some h1]
  rw [if_pos (show 0 ≤ (i + 1) ∧ (i + 1) < n from ⟨by omega, by omega⟩)]
  rw [if_pos (show 0 ≤ (i + 2) ∧ (i + 2) < n from ⟨by omega, by omega⟩)]
  rw [zbL_some h2]
  rw [if_pos he]
theorem lst_4 {Kr : Nat} {x n i : Int} {sc : Int → Int} {K : zK} {F Fm F1 F2 : zF} {B Bm B1 B2 : zB} {r1 r2 : Int} (hi : 0 ≤ i) (hn : i + 9 ≤ n) (hx : 0 ≤ x ∧ x < K.2 12) (h1 : f_S_voice K x (sc (i + 1)) (sc (i + 2)) (sc (i + 3)) F B = some (r1, F1, B1)) (h2 : f_M_voice Kr (sc (i + 1)) (sc (i + 2)) (sc (i + 3)) Fm Bm = some (r2, F2, B2)) : ls_4 Kr x sc n i K F B Fm Bm = some (K, F1, B1, F2, B2) := by
  unfold ls_4
  rw [if_pos (show 0 ≤ (i + 1) ∧ (i + 1) < n from ⟨by omega, by omega⟩)]
  rw [if_pos (show 0 ≤ (i + 2) ∧ (i + 2) < n from ⟨by omega, by omega⟩)]
  rw [if_pos (show 0 ≤ (i + 3) ∧ (i + 3) < n from ⟨by omega, by omega⟩)]
  rw [if_pos hx]
  rw [zbL_some h1]
  rw [if_pos (show 0 ≤ (i + 1) ∧ (i + 1) < n from ⟨by omega, by omega⟩)]
  rw [if_pos (show 0 ≤ (i + 2) ∧ (i + 2) < n from ⟨by omega, by omega⟩)]
  rw [if_pos (show 0 ≤ (i + 3) ∧ (i + 3) < n from ⟨by omega, by omega⟩)]
  rw [zbL_some h2]
theorem lst_5 {Kr : Nat} {x n i : Int} {sc : Int → Int} {K : zK} {F Fm F1 F2 : zF} {B Bm B1 B2 : zB} {r1 r2 : Int} (hi : 0 ≤ i) (hn : i + 9 ≤ n) (hx : 0 ≤ x ∧ x < K.2 12) (h1 : f_S_name K x (sc (i + 1)) (sc (i + 2)) F B = some (r1, F1, B1)) (h2 : f_M_name Kr (sc (i + 1)) (sc (i + 2)) Fm Bm = some (r2, F2, B2)) : ls_5 Kr x sc n i K F B Fm Bm = some (K, F1, B1, F2, B2) := by
  unfold ls_5
  rw [if_pos (show 0 ≤ (i + 1) ∧ (i + 1) < n from ⟨by omega, by omega⟩)]
  rw [if_pos (show 0 ≤ (i + 2) ∧ (i + 2) < n from ⟨by omega, by omega⟩)]
  rw [if_pos hx]
  rw [zbL_some h1]
  rw [if_pos (show 0 ≤ (i + 1) ∧ (i + 1) < n from ⟨by omega, by omega⟩)]
  rw [if_pos (show 0 ≤ (i + 2) ∧ (i + 2) < n from ⟨by omega, by omega⟩)]
  rw [zbL_some h2]
theorem lst_6 {Kr : Nat} {x n i : Int} {sc : Int → Int} {K : zK} {F Fm F1 F2 : zF} {B Bm B1 B2 : zB} {r1 r2 : Int} (hi : 0 ≤ i) (hn : i + 9 ≤ n) (hx : 0 ≤ x ∧ x < K.2 12) (h1 : f_S_event K x (sc (i + 1)) (sc (i + 2)) (sc (i + 3)) (sc (i + 4)) F B = some (r1, F1, B1)) (h2 : f_M_event_1 Kr (sc (i + 1)) (sc (i + 2)) (sc (i + 3)) (sc (i + 4)) Fm Bm = some (r2, F2, B2)) : ls_6 Kr x sc n i K F B Fm Bm = some (K, F1, B1, F2, B2) := by
  unfold ls_6
  rw [if_pos (show 0 ≤ (i + 1) ∧ (i + 1) < n from ⟨by omega, by omega⟩)]
  rw [if_pos (show 0 ≤ (i + 2) ∧ (i + 2) < n from ⟨by omega, by omega⟩)]
  rw [if_pos (show 0 ≤ (i + 3) ∧ (i + 3) < n from ⟨by omega, by omega⟩)]
  rw [if_pos (show 0 ≤ (i + 4) ∧ (i + 4) < n from ⟨by omega, by omega⟩)]
  rw [if_pos hx]
  rw [zbL_some h1]
  rw [if_pos (show 0 ≤ (i + 1) ∧ (i + 1) < n from ⟨by omega, by omega⟩)]
  rw [if_pos (show 0 ≤ (i + 2) ∧ (i + 2) < n from ⟨by omega, by omega⟩)]
  rw [if_pos (show 0 ≤ (i + 3) ∧ (i + 3) < n from ⟨by omega, by omega⟩)]
  rw [if_pos (show 0 ≤ (i + 4) ∧ (i + 4) < n from ⟨by omega, by omega⟩)]
  rw [zbL_some h2]
theorem lst_7 {Kr : Nat} {x n i : Int} {sc : Int → Int} {K : zK} {F Fm F1 F2 : zF} {B Bm B1 B2 : zB} {r1 r2 : Int} (hi : 0 ≤ i) (hn : i + 9 ≤ n) (hx : 0 ≤ x ∧ x < K.2 12) (h1 : f_S_pitch K x (sc (i + 1)) (sc (i + 2)) (sc (i + 3)) (sc (i + 4)) (sc (i + 5)) F B = some (r1, F1, B1)) (h2 : f_M_pitch Kr (sc (i + 1)) (sc (i + 2)) (sc (i + 3)) (sc (i + 4)) (sc (i + 5)) Fm Bm = some (r2, F2, B2)) : ls_7 Kr x sc n i K F B Fm Bm = some (K, F1, B1, F2, B2) := by
  unfold ls_7
  rw [if_pos (show 0 ≤ (i + 1) ∧ (i + 1) < n from ⟨by omega, by omega⟩)]
  rw [if_pos (show 0 ≤ (i + 2) ∧ (i + 2) < n from ⟨by omega, by omega⟩)]
  rw [if_pos (show 0 ≤ (i + 3) ∧ (i + 3) < n from ⟨by omega, by omega⟩)]
  rw [if_pos (show 0 ≤ (i + 4) ∧ (i + 4) < n from ⟨by omega, by omega⟩)]
  rw [if_pos (show 0 ≤ (i + 5) ∧ (i + 5) < n from ⟨by omega, by omega⟩)]
  rw [if_pos hx]
  rw [zbL_some h1]
  rw [if_pos (show 0 ≤ (i + 1) ∧ (i + 1) < n from ⟨by omega, by omega⟩)]
  rw [if_pos (show 0 ≤ (i + 2) ∧ (i + 2) < n from ⟨by omega, by omega⟩)]
  rw [if_pos (show 0 ≤ (i + 3) ∧ (i + 3) < n from ⟨by omega, by omega⟩)]
  rw [if_pos (show 0 ≤ (i + 4) ∧ (i + 4) < n from ⟨by omega, by omega⟩)]
  rw [if_pos (show 0 ≤ (i + 5) ∧ (i + 5) < n from ⟨by omega, by omega⟩)]
  rw [zbL_some h2]
theorem lst_8 {Kr : Nat} {x n i : Int} {sc : Int → Int} {K : zK} {F Fm F1 F2 : zF} {B Bm B1 B2 : zB} {r1 r2 : Int} (hi : 0 ≤ i) (hn : i + 9 ≤ n) (hx : 0 ≤ x ∧ x < K.2 12) (h1 : f_S_note K x (sc (i + 1)) (sc (i + 2)) (sc (i + 3)) (sc (i + 4)) F B = some (r1, F1, B1)) (h2 : f_M_note_0 Kr (sc (i + 1)) (sc (i + 2)) (sc (i + 3)) (sc (i + 4)) Fm Bm = some (r2, F2, B2)) : ls_8 Kr x sc n i K F B Fm Bm = some (K, F1, B1, F2, B2) := by
  unfold ls_8
  rw [if_pos (show 0 ≤ (i + 1) ∧ (i + 1) < n from ⟨by omega, by omega⟩)]
  rw [if_pos (show 0 ≤ (i + 2) ∧ (i + 2) < n from ⟨by omega, by omega⟩)]
  rw [if_pos (show 0 ≤ (i + 3) ∧ (i + 3) < n from ⟨by omega, by omega⟩)]
  rw [if_pos (show 0 ≤ (i + 4) ∧ (i + 4) < n from ⟨by omega, by omega⟩)]
  rw [if_pos hx]
  rw [zbL_some h1]
  rw [if_pos (show 0 ≤ (i + 1) ∧ (i + 1) < n from ⟨by omega, by omega⟩)]
  rw [if_pos (show 0 ≤ (i + 2) ∧ (i + 2) < n from ⟨by omega, by omega⟩)]
  rw [if_pos (show 0 ≤ (i + 3) ∧ (i + 3) < n from ⟨by omega, by omega⟩)]
  rw [if_pos (show 0 ≤ (i + 4) ∧ (i + 4) < n from ⟨by omega, by omega⟩)]
  rw [zbL_some h2]
theorem lst_9 {Kr : Nat} {x n i : Int} {sc : Int → Int} {K K1 : zK} {F Fm F1 F2 : zF} {B Bm B1 B2 : zB} {r1 r2 : Int} (hi : 0 ≤ i) (hn : i + 9 ≤ n) (hx : 0 ≤ x ∧ x < K.2 12) (h1 : f_S_lines K x (sc (i + 1)) (sc (i + 2)) F B = some (r1, F1, B1, K1)) (h2 : f_M_lines Kr (sc (i + 1)) (sc (i + 2)) Fm Bm = some (r2, F2, B2)) : ls_9 Kr x sc n i K F B Fm Bm = some (K1, F1, B1, F2, B2) := by
  unfold ls_9
  rw [if_pos (show 0 ≤ (i + 1) ∧ (i + 1) < n from ⟨by omega, by omega⟩)]
  rw [if_pos (show 0 ≤ (i + 2) ∧ (i + 2) < n from ⟨by omega, by omega⟩)]
  rw [if_pos hx]
  rw [zbM_some h1]
  rw [if_pos (show 0 ≤ (i + 1) ∧ (i + 1) < n from ⟨by omega, by omega⟩)]
  rw [if_pos (show 0 ≤ (i + 2) ∧ (i + 2) < n from ⟨by omega, by omega⟩)]
  rw [zbL_some h2]
theorem lst_10 {Kr : Nat} {x n i : Int} {sc : Int → Int} {K : zK} {F Fm F1 F2 : zF} {B Bm B1 B2 : zB} {r1 r2 : Int} (hi : 0 ≤ i) (hn : i + 9 ≤ n) (hx : 0 ≤ x ∧ x < K.2 12) (h1 : f_S_line K x (sc (i + 1)) (sc (i + 2)) (sc (i + 3)) F B = some (r1, F1, B1)) (h2 : f_M_line Kr (sc (i + 1)) (sc (i + 2)) (sc (i + 3)) Fm Bm = some (r2, F2, B2)) : ls_10 Kr x sc n i K F B Fm Bm = some (K, F1, B1, F2, B2) := by
  unfold ls_10
  rw [if_pos (show 0 ≤ (i + 1) ∧ (i + 1) < n from ⟨by omega, by omega⟩)]
  rw [if_pos (show 0 ≤ (i + 2) ∧ (i + 2) < n from ⟨by omega, by omega⟩)]
  rw [if_pos (show 0 ≤ (i + 3) ∧ (i + 3) < n from ⟨by omega, by omega⟩)]
  rw [if_pos hx]
  rw [zbL_some h1]
  rw [if_pos (show 0 ≤ (i + 1) ∧ (i + 1) < n from ⟨by omega, by omega⟩)]
  rw [if_pos (show 0 ≤ (i + 2) ∧ (i + 2) < n from ⟨by omega, by omega⟩)]
  rw [if_pos (show 0 ≤ (i + 3) ∧ (i + 3) < n from ⟨by omega, by omega⟩)]
  rw [zbL_some h2]
theorem lst_11 {Kr : Nat} {x n i : Int} {sc : Int → Int} {K : zK} {F Fm F1 F2 : zF} {B Bm B1 B2 : zB} {r1 r2 : Int} (hi : 0 ≤ i) (hn : i + 9 ≤ n) (hx : 0 ≤ x ∧ x < K.2 12) (h1 : f_S_x K x (sc (i + 1)) (sc (i + 2)) (sc (i + 3)) F B = some (r1, F1, B1)) (h2 : f_M_x Kr (sc (i + 1)) (sc (i + 2)) (sc (i + 3)) Fm Bm = some (r2, F2, B2)) : ls_11 Kr x sc n i K F B Fm Bm = some (K, F1, B1, F2, B2) := by
  unfold ls_11
  rw [if_pos (show 0 ≤ (i + 1) ∧ (i + 1) < n from ⟨by omega, by omega⟩)]
  rw [if_pos (show 0 ≤ (i + 2) ∧ (i + 2) < n from ⟨by omega, by omega⟩)]
  rw [if_pos (show 0 ≤ (i + 3) ∧ (i + 3) < n from ⟨by omega, by omega⟩)]
  rw [if_pos hx]
  rw [zbL_some h1]
  rw [if_pos (show 0 ≤ (i + 1) ∧ (i + 1) < n from ⟨by omega, by omega⟩)]
  rw [if_pos (show 0 ≤ (i + 2) ∧ (i + 2) < n from ⟨by omega, by omega⟩)]
  rw [if_pos (show 0 ≤ (i + 3) ∧ (i + 3) < n from ⟨by omega, by omega⟩)]
  rw [zbL_some h2]
theorem lst_12 {Kr : Nat} {x n i : Int} {sc : Int → Int} {K K1 : zK} {F Fm F1 F2 : zF} {B Bm B1 B2 : zB} {r1 r2 : Int} (hi : 0 ≤ i) (hn : i + 9 ≤ n) (hx : 0 ≤ x ∧ x < K.2 12) (h1 : f_S_perform K x (sc (i + 1)) F B = some (r1, F1, B1, K1)) (h2 : f_M_perform Kr (sc (i + 1)) Fm Bm = some (r2, F2, B2)) : ls_12 Kr x sc n i K F B Fm Bm = some (K1, F1, B1, F2, B2) := by
  unfold ls_12
  rw [if_pos (show 0 ≤ (i + 1) ∧ (i + 1) < n from ⟨by omega, by omega⟩)]
  rw [if_pos hx]
  rw [zbM_some h1]
  rw [if_pos (show 0 ≤ (i + 1) ∧ (i + 1) < n from ⟨by omega, by omega⟩)]
  rw [zbL_some h2]
theorem lst_13 {Kr : Nat} {x n i : Int} {sc : Int → Int} {K : zK} {F Fm F1 F2 : zF} {B Bm B1 B2 : zB} {r1 r2 : Int} (hi : 0 ≤ i) (hn : i + 9 ≤ n) (hx : 0 ≤ x ∧ x < K.2 12) (h1 : f_S_stroke K x (sc (i + 1)) (sc (i + 2)) (sc (i + 3)) F B = some (r1, F1, B1)) (h2 : f_M_stroke Kr (sc (i + 1)) (sc (i + 2)) (sc (i + 3)) Fm Bm = some (r2, F2, B2)) : ls_13 Kr x sc n i K F B Fm Bm = some (K, F1, B1, F2, B2) := by
  unfold ls_13
  rw [if_pos (show 0 ≤ (i + 1) ∧ (i + 1) < n from ⟨by omega, by omega⟩)]
  rw [if_pos (show 0 ≤ (i + 2) ∧ (i + 2) < n from ⟨by omega, by omega⟩)]
  rw [if_pos (show 0 ≤ (i + 3) ∧ (i + 3) < n from ⟨by omega, by omega⟩)]
  rw [if_pos hx]
  rw [zbL_some h1]
  rw [if_pos (show 0 ≤ (i + 1) ∧ (i + 1) < n from ⟨by omega, by omega⟩)]
  rw [if_pos (show 0 ≤ (i + 2) ∧ (i + 2) < n from ⟨by omega, by omega⟩)]
  rw [if_pos (show 0 ≤ (i + 3) ∧ (i + 3) < n from ⟨by omega, by omega⟩)]
  rw [zbL_some h2]
theorem lst_14 {Kr : Nat} {x n i : Int} {sc : Int → Int} {K : zK} {F Fm F1 F2 : zF} {B Bm B1 B2 : zB} {r1 r2 : Int} (hi : 0 ≤ i) (hn : i + 9 ≤ n) (hx : 0 ≤ x ∧ x < K.2 12) (h1 : f_S_file K x (sc (i + 1)) F B = some (r1, F1, B1)) (h2 : f_M_file Kr (sc (i + 1)) Fm Bm = some (r2, F2, B2)) : ls_14 Kr x sc n i K F B Fm Bm = some (K, F1, B1, F2, B2) := by
  unfold ls_14
  rw [if_pos (show 0 ≤ (i + 1) ∧ (i + 1) < n from ⟨by omega, by omega⟩)]
  rw [if_pos hx]
  rw [zbL_some h1]
  rw [if_pos (show 0 ≤ (i + 1) ∧ (i + 1) < n from ⟨by omega, by omega⟩)]
  rw [zbL_some h2]
theorem lst_15 {Kr : Nat} {x n i : Int} {sc : Int → Int} {K : zK} {F Fm F1 F2 : zF} {B Bm B1 B2 : zB} {r1 r2 : Int} (hi : 0 ≤ i) (hn : i + 9 ≤ n) (hx : 0 ≤ x ∧ x < K.2 12) (h1 : f_S_out K x (sc (i + 1)) F B = some (r1, F1, B1)) (h2 : f_M_out Kr (sc (i + 1)) Fm Bm = some (r2, F2, B2)) : ls_15 Kr x sc n i K F B Fm Bm = some (K, F1, B1, F2, B2) := by
  unfold ls_15
  rw [if_pos (show 0 ≤ (i + 1) ∧ (i + 1) < n from ⟨by omega, by omega⟩)]
  rw [if_pos hx]
  rw [zbL_some h1]
  rw [if_pos (show 0 ≤ (i + 1) ∧ (i + 1) < n from ⟨by omega, by omega⟩)]
  rw [zbL_some h2]
theorem lst_16 {Kr : Nat} {x n i : Int} {sc : Int → Int} {K : zK} {F Fm F1 F2 : zF} {B Bm B1 B2 : zB} {r1 r2 : Int} (hi : 0 ≤ i) (hn : i + 9 ≤ n) (hx : 0 ≤ x ∧ x < K.2 12) (h1 : f_S_again K x F B = some (r1, F1, B1)) (h2 : f_M_again Kr Fm Bm = some (r2, F2, B2)) : ls_16 Kr x sc n i K F B Fm Bm = some (K, F1, B1, F2, B2) := by
  unfold ls_16
  rw [if_pos hx]
  rw [zbL_some h1]
  rw [zbL_some h2]
theorem lst_17 {Kr : Nat} {x n i : Int} {sc : Int → Int} {K K1 : zK} {F Fm F1 F2 : zF} {B Bm B1 B2 : zB} {r1 r2 : Int} (hi : 0 ≤ i) (hn : i + 9 ≤ n) (hx : 0 ≤ x ∧ x < K.2 12) (h1 : f_S_open K x F B = some (r1, F1, B1, K1)) (h2 : f_M_open Kr Fm Bm = some (r2, F2, B2)) : ls_17 Kr x sc n i K F B Fm Bm = some (K1, F1, B1, F2, B2) := by
  unfold ls_17
  rw [if_pos hx]
  rw [zbM_some h1]
  rw [zbL_some h2]
theorem lst_18 {Kr : Nat} {x n i : Int} {sc : Int → Int} {K : zK} {F Fm F1 F2 : zF} {B Bm B1 B2 : zB} {r1 r2 : Int} (hi : 0 ≤ i) (hn : i + 9 ≤ n) (hx : 0 ≤ x ∧ x < K.2 12) (h1 : f_S_track K x (sc (i + 1)) F B = some (r1, F1, B1)) (h2 : f_M_track Kr (sc (i + 1)) Fm Bm = some (r2, F2, B2)) : ls_18 Kr x sc n i K F B Fm Bm = some (K, F1, B1, F2, B2) := by
  unfold ls_18
  rw [if_pos (show 0 ≤ (i + 1) ∧ (i + 1) < n from ⟨by omega, by omega⟩)]
  rw [if_pos hx]
  rw [zbL_some h1]
  rw [if_pos (show 0 ≤ (i + 1) ∧ (i + 1) < n from ⟨by omega, by omega⟩)]
  rw [zbL_some h2]
theorem lst_19 {Kr : Nat} {x n i : Int} {sc : Int → Int} {K : zK} {F Fm F1 F2 : zF} {B Bm B1 B2 : zB} {r1 r2 : Int} (hi : 0 ≤ i) (hn : i + 9 ≤ n) (hx : 0 ≤ x ∧ x < K.2 12) (h1 : f_S_sound K x (sc (i + 1)) (sc (i + 2)) F B = some (r1, F1, B1)) (h2 : f_M_sound_0 Kr (sc (i + 1)) (sc (i + 2)) Fm Bm = some (r2, F2, B2)) : ls_19 Kr x sc n i K F B Fm Bm = some (K, F1, B1, F2, B2) := by
  unfold ls_19
  rw [if_pos (show 0 ≤ (i + 1) ∧ (i + 1) < n from ⟨by omega, by omega⟩)]
  rw [if_pos (show 0 ≤ (i + 2) ∧ (i + 2) < n from ⟨by omega, by omega⟩)]
  rw [if_pos hx]
  rw [zbL_some h1]
  rw [if_pos (show 0 ≤ (i + 1) ∧ (i + 1) < n from ⟨by omega, by omega⟩)]
  rw [if_pos (show 0 ≤ (i + 2) ∧ (i + 2) < n from ⟨by omega, by omega⟩)]
  rw [zbL_some h2]
theorem lst_20 {Kr : Nat} {x n i : Int} {sc : Int → Int} {K : zK} {F Fm F1 F2 : zF} {B Bm B1 B2 : zB} {r1 r2 : Int} (hi : 0 ≤ i) (hn : i + 9 ≤ n) (hx : 0 ≤ x ∧ x < K.2 12) (h1 : f_S_down K x (sc (i + 1)) F B = some (r1, F1, B1)) (h2 : f_M_down Kr (sc (i + 1)) Fm Bm = some (r2, F2, B2)) : ls_20 Kr x sc n i K F B Fm Bm = some (K, F1, B1, F2, B2) := by
  unfold ls_20
  rw [if_pos (show 0 ≤ (i + 1) ∧ (i + 1) < n from ⟨by omega, by omega⟩)]
  rw [if_pos hx]
  rw [zbL_some h1]
  rw [if_pos (show 0 ≤ (i + 1) ∧ (i + 1) < n from ⟨by omega, by omega⟩)]
  rw [zbL_some h2]
theorem lst_21 {Kr : Nat} {x n i : Int} {sc : Int → Int} {K : zK} {F Fm F1 F2 : zF} {B Bm B1 B2 : zB} {r1 r2 : Int} (hi : 0 ≤ i) (hn : i + 9 ≤ n) (hx : 0 ≤ x ∧ x < K.2 12) (h1 : f_S_play K x (sc (i + 1)) (sc (i + 2)) F B = some (r1, F1, B1)) (h2 : f_M_play Kr (sc (i + 1)) (sc (i + 2)) Fm Bm = some (r2, F2, B2)) : ls_21 Kr x sc n i K F B Fm Bm = some (K, F1, B1, F2, B2) := by
  unfold ls_21
  rw [if_pos (show 0 ≤ (i + 1) ∧ (i + 1) < n from ⟨by omega, by omega⟩)]
  rw [if_pos (show 0 ≤ (i + 2) ∧ (i + 2) < n from ⟨by omega, by omega⟩)]
  rw [if_pos hx]
  rw [zbL_some h1]
  rw [if_pos (show 0 ≤ (i + 1) ∧ (i + 1) < n from ⟨by omega, by omega⟩)]
  rw [if_pos (show 0 ≤ (i + 2) ∧ (i + 2) < n from ⟨by omega, by omega⟩)]
  rw [zbL_some h2]
theorem lst_22 {Kr : Nat} {x n i : Int} {sc : Int → Int} {K : zK} {F Fm F1 F2 : zF} {B Bm B1 B2 : zB} {r1 r2 : Int} (hi : 0 ≤ i) (hn : i + 9 ≤ n) (hx : 0 ≤ x ∧ x < K.2 12) (h1 : f_S_sample K x (sc (i + 1)) (sc (i + 2)) (sc (i + 3)) F B = some (r1, F1, B1)) (h2 : f_M_sample Kr (sc (i + 1)) (sc (i + 2)) (sc (i + 3)) Fm Bm = some (r2, F2, B2)) : ls_22 Kr x sc n i K F B Fm Bm = some (K, F1, B1, F2, B2) := by
  unfold ls_22
  rw [if_pos (show 0 ≤ (i + 1) ∧ (i + 1) < n from ⟨by omega, by omega⟩)]
  rw [if_pos (show 0 ≤ (i + 2) ∧ (i + 2) < n from ⟨by omega, by omega⟩)]
  rw [if_pos (show 0 ≤ (i + 3) ∧ (i + 3) < n from ⟨by omega, by omega⟩)]
  rw [if_pos hx]
  rw [zbL_some h1]
  rw [if_pos (show 0 ≤ (i + 1) ∧ (i + 1) < n from ⟨by omega, by omega⟩)]
  rw [if_pos (show 0 ≤ (i + 2) ∧ (i + 2) < n from ⟨by omega, by omega⟩)]
  rw [if_pos (show 0 ≤ (i + 3) ∧ (i + 3) < n from ⟨by omega, by omega⟩)]
  rw [zbL_some h2]
theorem lst_23 {Kr : Nat} {x n i : Int} {sc : Int → Int} {K K1 : zK} {F Fm F1 F2 : zF} {B Bm B1 B2 : zB} {r1 r2 : Int} (hi : 0 ≤ i) (hn : i + 9 ≤ n) (hx : 0 ≤ x ∧ x < K.2 12) (h1 : f_S_moment K x (sc (i + 1)) (sc (i + 2)) (sc (i + 3)) F B = some (r1, F1, B1, K1)) (h2 : f_M_moment_0 Kr (sc (i + 1)) (sc (i + 2)) (sc (i + 3)) Fm Bm = some (r2, F2, B2)) : ls_23 Kr x sc n i K F B Fm Bm = some (K1, F1, B1, F2, B2) := by
  unfold ls_23
  rw [if_pos (show 0 ≤ (i + 1) ∧ (i + 1) < n from ⟨by omega, by omega⟩)]
  rw [if_pos (show 0 ≤ (i + 2) ∧ (i + 2) < n from ⟨by omega, by omega⟩)]
  rw [if_pos (show 0 ≤ (i + 3) ∧ (i + 3) < n from ⟨by omega, by omega⟩)]
  rw [if_pos hx]
  rw [zbM_some h1]
  rw [if_pos (show 0 ≤ (i + 1) ∧ (i + 1) < n from ⟨by omega, by omega⟩)]
  rw [if_pos (show 0 ≤ (i + 2) ∧ (i + 2) < n from ⟨by omega, by omega⟩)]
  rw [if_pos (show 0 ≤ (i + 3) ∧ (i + 3) < n from ⟨by omega, by omega⟩)]
  rw [zbL_some h2]
theorem lst_24 {Kr : Nat} {x n i : Int} {sc : Int → Int} {K K1 : zK} {F Fm F1 F2 : zF} {B Bm B1 B2 : zB} {r1 r2 : Int} (hi : 0 ≤ i) (hn : i + 9 ≤ n) (hx : 0 ≤ x ∧ x < K.2 12) (h1 : f_S_fault K x (sc (i + 1)) (sc (i + 2)) (sc (i + 3)) F B = some (r1, F1, B1, K1)) (h2 : f_M_fault_0 Kr (sc (i + 1)) (sc (i + 2)) (sc (i + 3)) Fm Bm = some (r2, F2, B2)) : ls_24 Kr x sc n i K F B Fm Bm = some (K1, F1, B1, F2, B2) := by
  unfold ls_24
  rw [if_pos (show 0 ≤ (i + 1) ∧ (i + 1) < n from ⟨by omega, by omega⟩)]
  rw [if_pos (show 0 ≤ (i + 2) ∧ (i + 2) < n from ⟨by omega, by omega⟩)]
  rw [if_pos (show 0 ≤ (i + 3) ∧ (i + 3) < n from ⟨by omega, by omega⟩)]
  rw [if_pos hx]
  rw [zbM_some h1]
  rw [if_pos (show 0 ≤ (i + 1) ∧ (i + 1) < n from ⟨by omega, by omega⟩)]
  rw [if_pos (show 0 ≤ (i + 2) ∧ (i + 2) < n from ⟨by omega, by omega⟩)]
  rw [if_pos (show 0 ≤ (i + 3) ∧ (i + 3) < n from ⟨by omega, by omega⟩)]
  rw [zbL_some h2]
theorem lst_25 {Kr : Nat} {x n i : Int} {sc : Int → Int} {K : zK} {F Fm F1 F2 : zF} {B Bm B1 B2 : zB} {r1 r2 : Int} (hi : 0 ≤ i) (hn : i + 9 ≤ n) (hx : 0 ≤ x ∧ x < K.2 12) (h1 : f_S_follows K x (sc (i + 1)) (sc (i + 2)) (sc (i + 3)) (sc (i + 4)) F B = some (r1, F1, B1)) (h2 : f_M_follows Kr (sc (i + 1)) (sc (i + 2)) (sc (i + 3)) (sc (i + 4)) Fm Bm = some (r2, F2, B2)) : ls_25 Kr x sc n i K F B Fm Bm = some (K, F1, B1, F2, B2) := by
  unfold ls_25
  rw [if_pos (show 0 ≤ (i + 1) ∧ (i + 1) < n from ⟨by omega, by omega⟩)]
  rw [if_pos (show 0 ≤ (i + 2) ∧ (i + 2) < n from ⟨by omega, by omega⟩)]
  rw [if_pos (show 0 ≤ (i + 3) ∧ (i + 3) < n from ⟨by omega, by omega⟩)]
  rw [if_pos (show 0 ≤ (i + 4) ∧ (i + 4) < n from ⟨by omega, by omega⟩)]
  rw [if_pos hx]
  rw [zbL_some h1]
  rw [if_pos (show 0 ≤ (i + 1) ∧ (i + 1) < n from ⟨by omega, by omega⟩)]
  rw [if_pos (show 0 ≤ (i + 2) ∧ (i + 2) < n from ⟨by omega, by omega⟩)]
  rw [if_pos (show 0 ≤ (i + 3) ∧ (i + 3) < n from ⟨by omega, by omega⟩)]
  rw [if_pos (show 0 ≤ (i + 4) ∧ (i + 4) < n from ⟨by omega, by omega⟩)]
  rw [zbL_some h2]
theorem lst_26 {Kr : Nat} {x n i : Int} {sc : Int → Int} {K : zK} {F Fm F1 F2 : zF} {B Bm B1 B2 : zB} {r1 r2 : Int} (hi : 0 ≤ i) (hn : i + 9 ≤ n) (hx : 0 ≤ x ∧ x < K.2 12) (h1 : f_S_shape K x (sc (i + 1)) (sc (i + 2)) (sc (i + 3)) (sc (i + 4)) (sc (i + 5)) (sc (i + 6)) (sc (i + 7)) (sc (i + 8)) F B = some (r1, F1, B1)) (h2 : f_M_shape Kr (sc (i + 1)) (sc (i + 2)) (sc (i + 3)) (sc (i + 4)) (sc (i + 5)) (sc (i + 6)) (sc (i + 7)) (sc (i + 8)) Fm Bm = some (r2, F2, B2)) : ls_26 Kr x sc n i K F B Fm Bm = some (K, F1, B1, F2, B2) := by
  unfold ls_26
  rw [if_pos (show 0 ≤ (i + 1) ∧ (i + 1) < n from ⟨by omega, by omega⟩)]
  rw [if_pos (show 0 ≤ (i + 2) ∧ (i + 2) < n from ⟨by omega, by omega⟩)]
  rw [if_pos (show 0 ≤ (i + 3) ∧ (i + 3) < n from ⟨by omega, by omega⟩)]
  rw [if_pos (show 0 ≤ (i + 4) ∧ (i + 4) < n from ⟨by omega, by omega⟩)]
  rw [if_pos (show 0 ≤ (i + 5) ∧ (i + 5) < n from ⟨by omega, by omega⟩)]
  rw [if_pos (show 0 ≤ (i + 6) ∧ (i + 6) < n from ⟨by omega, by omega⟩)]
  rw [if_pos (show 0 ≤ (i + 7) ∧ (i + 7) < n from ⟨by omega, by omega⟩)]
  rw [if_pos (show 0 ≤ (i + 8) ∧ (i + 8) < n from ⟨by omega, by omega⟩)]
  rw [if_pos hx]
  rw [zbL_some h1]
  rw [if_pos (show 0 ≤ (i + 1) ∧ (i + 1) < n from ⟨by omega, by omega⟩)]
  rw [if_pos (show 0 ≤ (i + 2) ∧ (i + 2) < n from ⟨by omega, by omega⟩)]
  rw [if_pos (show 0 ≤ (i + 3) ∧ (i + 3) < n from ⟨by omega, by omega⟩)]
  rw [if_pos (show 0 ≤ (i + 4) ∧ (i + 4) < n from ⟨by omega, by omega⟩)]
  rw [if_pos (show 0 ≤ (i + 5) ∧ (i + 5) < n from ⟨by omega, by omega⟩)]
  rw [if_pos (show 0 ≤ (i + 6) ∧ (i + 6) < n from ⟨by omega, by omega⟩)]
  rw [if_pos (show 0 ≤ (i + 7) ∧ (i + 7) < n from ⟨by omega, by omega⟩)]
  rw [if_pos (show 0 ≤ (i + 8) ∧ (i + 8) < n from ⟨by omega, by omega⟩)]
  rw [zbL_some h2]
