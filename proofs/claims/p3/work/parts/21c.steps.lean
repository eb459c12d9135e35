theorem zbL_some {x : zO} {k : Int → zF → zB → zL} {r : Int} {F : zF} {B : zB} (h : x = some (r, F, B)) : zbL x k = k r F B := by rw [h]; rfl
theorem zbM_some {x : zOm} {k : Int → zF → zB → zK → zL} {r : Int} {F : zF} {B : zB} {K : zK} (h : x = some (r, F, B, K)) : zbM x k = k r F B K := by rw [h]; rfl
theorem lst_0 {Kr : Nat} {x n i : Int} {sc : Int → Int} {K : zK} {F Fm F1 F2 : zF} {B Bm B1 B2 : zB} {r1 r2 : Int} (hi : 0 ≤ i) (hn : i + 9 ≤ n) (hx : 0 ≤ x ∧ x < K.2 12) (h1 : f_S_feed K x (sc (i + 1)) (sc (i + 2)) (sc (i + 3)) (sc (i + 4)) (sc (i + 5)) F B = some (r1, F1, B1)) (h2 : f_M_feed Kr (sc (i + 1)) (sc (i + 2)) (sc (i + 3)) (sc (i + 4)) (sc (i + 5)) Fm Bm = some (r2, F2, B2)) : ls_0 Kr x sc n i K F B Fm Bm = some (K, F1, B1, F2, B2) := by
  unfold ls_0
  rw [if_pos (show 0 ≤ (i + 1) ∧ (i + 1) < n from ⟨by omega, by omega⟩)]
  rw [if_pos (show 0 ≤ (i + 2) ∧ (i + 2) < n from ⟨by omega, by omega⟩)]
  rw [if_pos (show 0 ≤ (i + 3) ∧ (i + 3) < n from ⟨by omega, by omega⟩)]
  rw [if_pos (show 0 ≤ (i + 4) ∧ (i + 4) < n from ⟨by omega, by omega⟩)]
  rw [if_pos (show 0 ≤ (i + 5) ∧ (i + 5) < n from ⟨by omega, by omega⟩)]
  rw [if_pos hx]
  rw [zbL_some h1]
  rw [if_pos (show 0 ≤ (i + 1) ∧ (i + 1) < n from ⟨by omega, by omega⟩)]
  rw [if_pos (show 0 ≤ (i + 2) ∧ (i + 2) < n from ⟨by omega, by omega⟩)]
  rw [if_pos (show 0 ≤ (i + 3) ∧ (i + 3) < n from ⟨by omega, by omega⟩)]
  rw [if_pos (show 0 ≤ (i + 4) ∧ (i + 4) < n from ⟨by omega, by omega⟩)]
  rw [if_pos (show 0 ≤ (i + 5) ∧ (i + 5) < n from ⟨by omega, by omega⟩)]
  rw [zbL_some h2]
theorem lst_1 {Kr : Nat} {x n i : Int} {sc : Int → Int} {K : zK} {F Fm F1 F2 : zF} {B Bm B1 B2 : zB} {r1 r2 : Int} (hi : 0 ≤ i) (hn : i + 9 ≤ n) (hx : 0 ≤ x ∧ x < K.2 12) (h1 : f_S_end K x (sc (i + 1)) F B = some (r1, F1, B1)) (h2 : f_M_end Kr (sc (i + 1)) Fm Bm = some (r2, F2, B2)) (he : r1 = r2) (hr : r32 r1) : ls_1 Kr x sc n i K F B Fm Bm = some (K, F1, B1, F2, B2) := by
  unfold ls_1
  rw [if_pos (show 0 ≤ (i + 1) ∧ (i + 1) < n from ⟨by omega, by omega⟩)]
  rw [if_pos hx]
  rw [zbL_some h1]
  rw [if_pos (show 0 ≤ (i + 1) ∧ (i + 1) < n from ⟨by omega, by omega⟩)]
  rw [zbL_some h2]
  rw [if_pos hr]
  rw [if_pos (he ▸ hr)]
  rw [if_pos he]
theorem lst_2 {Kr : Nat} {x n i : Int} {sc : Int → Int} {K K1 : zK} {F Fm F1 F2 : zF} {B Bm B1 B2 : zB} {r1 r2 : Int} (hi : 0 ≤ i) (hn : i + 9 ≤ n) (hx : 0 ≤ x ∧ x < K.2 12) (h1 : f_S_read K x (sc (i + 1)) F B = some (r1, F1, B1, K1)) (h2 : f_M_read Kr (sc (i + 1)) Fm Bm = some (r2, F2, B2)) : ls_2 Kr x sc n i K F B Fm Bm = some (K1, F1, B1, F2, B2) := by
  unfold ls_2
  rw [if_pos (show 0 ≤ (i + 1) ∧ (i + 1) < n from ⟨by omega, by omega⟩)]
  rw [if_pos hx]
  rw [zbM_some h1]
  rw [if_pos (show 0 ≤ (i + 1) ∧ (i + 1) < n from ⟨by omega, by omega⟩)]
  rw [zbL_some h2]
theorem lst_3 {Kr : Nat} {x n i : Int} {sc : Int → Int} {K K1 : zK} {F Fm F1 F2 : zF} {B Bm B1 B2 : zB} {r1 r2 : Int} (hi : 0 ≤ i) (hn : i + 9 ≤ n) (hx : 0 ≤ x ∧ x < K.2 12) (h1 : f_S_look K x (sc (i + 1)) (sc (i + 2)) F B = some (r1, F1, B1, K1)) (h2 : f_M_look Kr (sc (i + 1)) (sc (i + 2)) Fm Bm = some (r2, F2, B2)) : ls_3 Kr x sc n i K F B Fm Bm = some (K1, F1, B1, F2, B2) := by
  unfold ls_3
  rw [if_pos (show 0 ≤ (i + 1) ∧ (i + 1) < n from ⟨by omega, by omega⟩)]
  rw [if_pos (show 0 ≤ (i + 2) ∧ (i + 2) < n from ⟨by omega, by omega⟩)]
  rw [if_pos hx]
  rw [zbM_some h1]
  rw [if_pos (show 0 ≤ (i + 1) ∧ (i + 1) < n from ⟨by omega, by omega⟩)]
  rw [if_pos (show 0 ≤ (i + 2) ∧ (i + 2) < n from ⟨by omega, by omega⟩)]
  rw [zbL_some h2]
theorem lst_4 {Kr : Nat} {x n i : Int} {sc : Int → Int} {K : zK} {F Fm F1 F2 : zF} {B Bm B1 B2 : zB} {r1 r2 : Int} (hi : 0 ≤ i) (hn : i + 9 ≤ n) (hx : 0 ≤ x ∧ x < K.2 12) (h1 : f_S_voice K x (sc (i + 1)) (sc (i + 2)) (sc (i + 3)) F B = some (r1, F1, B1)) (h2 : f_M_voice Kr (sc (i + 1)) (sc (i + 2)) (sc (i + 3)) Fm Bm = some (r2, F2, B2)) : ls_4 Kr x sc n i K F B Fm Bm = some (K, F1, B1, F2, B2) := by
  unfold ls_4
  rw [if_pos (show 0 ≤ (i + 1) ∧ (i + 1) < n from ⟨by omega, by omega⟩)]
  rw [if_pos (show 0 ≤ (i + 2) ∧ (i + 2) < n from ⟨by omega, by omega⟩)]
  rw [if_pos (show 0 ≤ (i + 3) ∧ (i + 3) < n from ⟨by omega, by omega⟩)]
  rw [if_pos hx]
  rw [zbL_some h1]
  rw [if_pos (show 0 ≤ (i + 1) ∧ (i + 1) < n from ⟨by omega, by omega⟩)]
  rw [if_pos (show 0 ≤ (i + 2) ∧ (i + 2) < n from ⟨by omega, by omega⟩)]
  rw [if_pos (show 0 ≤ (i + 3) ∧ (i + 3) < n from ⟨by omega, by omega⟩)]
  rw [zbL_some h2]
theorem lst_5 {Kr : Nat} {x n i : Int} {sc : Int → Int} {K : zK} {F Fm F1 F2 : zF} {B Bm B1 B2 : zB} {r1 r2 : Int} (hi : 0 ≤ i) (hn : i + 9 ≤ n) (hx : 0 ≤ x ∧ x < K.2 12) (h1 : f_S_name K x (sc (i + 1)) (sc (i + 2)) F B = some (r1, F1, B1)) (h2 : f_M_name Kr (sc (i + 1)) (sc (i + 2)) Fm Bm = some (r2, F2, B2)) : ls_5 Kr x sc n i K F B Fm Bm = some (K, F1, B1, F2, B2) := by
  unfold ls_5
  rw [if_pos (show 0 ≤ (i + 1) ∧ (i + 1) < n from ⟨by omega, by omega⟩)]
  rw [if_pos (show 0 ≤ (i + 2) ∧ (i + 2) < n from ⟨by omega, by omega⟩)]
  rw [if_pos hx]
  rw [zbL_some h1]
  rw [if_pos (show 0 ≤ (i + 1) ∧ (i + 1) < n from ⟨by omega, by omega⟩)]
  rw [if_pos (show 0 ≤ (i + 2) ∧ (i + 2) < n from ⟨by omega, by omega⟩)]
  rw [zbL_some h2]
theorem lst_6 {Kr : Nat} {x n i : Int} {sc : Int → Int} {K : zK} {F Fm F1 F2 : zF} {B Bm B1 B2 : zB} {r1 r2 : Int} (hi : 0 ≤ i) (hn : i + 9 ≤ n) (hx : 0 ≤ x ∧ x < K.2 12) (h1 : f_S_event K x (sc (i + 1)) (sc (i + 2)) (sc (i + 3)) (sc (i + 4)) F B = some (r1, F1, B1)) (h2 : f_M_event_1 Kr (sc (i + 1)) (sc (i + 2)) (sc (i + 3)) (sc (i + 4)) Fm Bm = some (r2, F2, B2)) : ls_6 Kr x sc n i K F B Fm Bm = some (K, F1, B1, F2, B2) := by
  unfold ls_6
  rw [if_pos (show 0 ≤ (i + 1) ∧ (i + 1) < n from ⟨by omega, by omega⟩)]
  rw [if_pos (show 0 ≤ (i + 2) ∧ (i + 2) < n from ⟨by omega, by omega⟩)]
  rw [if_pos (show 0 ≤ (i + 3) ∧ (i + 3) < n from ⟨by omega, by omega⟩)]
  rw [if_pos (show 0 ≤ (i + 4) ∧ (i + 4) < n from ⟨by omega, by omega⟩)]
  rw [if_pos hx]
  rw [zbL_some h1]
  rw [if_pos (show 0 ≤ (i + 1) ∧ (i + 1) < n from ⟨by omega, by omega⟩)]
  rw [if_pos (show 0 ≤ (i + 2) ∧ (i + 2) < n from ⟨by omega, by omega⟩)]
  rw [if_pos (show 0 ≤ (i + 3) ∧ (i + 3) < n from ⟨by omega, by omega⟩)]
  rw [if_pos (show 0 ≤ (i + 4) ∧ (i + 4) < n from ⟨by omega, by omega⟩)]
  rw [zbL_some h2]
theorem lst_7 {Kr : Nat} {x n i : Int} {sc : Int → Int} {K : zK} {F Fm F1 F2 : zF} {B Bm B1 B2 : zB} {r1 r2 : Int} (hi : 0 ≤ i) (hn : i + 9 ≤ n) (hx : 0 ≤ x ∧ x < K.2 12) (h1 : f_S_pitch K x (sc (i + 1)) (sc (i + 2)) (sc (i + 3)) (sc (i + 4)) (sc (i + 5)) F B = some (r1, F1, B1)) (h2 : f_M_pitch Kr (sc (i + 1)) (sc (i + 2)) (sc (i + 3)) (sc (i + 4)) (sc (i + 5)) Fm Bm = some (r2, F2, B2)) : ls_7 Kr x sc n i K F B Fm Bm = some (K, F1, B1, F2, B2) := by
  unfold ls_7
  rw [if_pos (show 0 ≤ (i + 1) ∧ (i + 1) < n from ⟨by omega, by omega⟩)]
  rw [if_pos (show 0 ≤ (i + 2) ∧ (i + 2) < n from ⟨by omega, by omega⟩)]
  rw [if_pos (show 0 ≤ (i + 3) ∧ (i + 3) < n from ⟨by omega, by omega⟩)]
  rw [if_pos (show 0 ≤ (i + 4) ∧ (i + 4) < n from ⟨by omega, by omega⟩)]
  rw [if_pos (show 0 ≤ (i + 5) ∧ (i + 5) < n from ⟨by omega, by omega⟩)]
  rw [if_pos hx]
  rw [zbL_some h1]
  rw [if_pos (show 0 ≤ (i + 1) ∧ (i + 1) < n from ⟨by omega, by omega⟩)]
  rw [if_pos (show 0 ≤ (i + 2) ∧ (i + 2) < n from ⟨by omega, by omega⟩)]
  rw [if_pos (show 0 ≤ (i + 3) ∧ (i + 3) < n from ⟨by omega, by omega⟩)]
  rw [if_pos (show 0 ≤ (i + 4) ∧ (i + 4) < n from ⟨by omega, by omega⟩)]
  rw [if_pos (show 0 ≤ (i + 5) ∧ (i + 5) < n from ⟨by omega, by omega⟩)]
  rw [zbL_some h2]
theorem lst_8 {Kr : Nat} {x n i : Int} {sc : Int → Int} {K : zK} {F Fm F1 F2 : zF} {B Bm B1 B2 : zB} {r1 r2 : Int} (hi : 0 ≤ i) (hn : i + 9 ≤ n) (hx : 0 ≤ x ∧ x < K.2 12) (h1 : f_S_note K x (sc (i + 1)) (sc (i + 2)) (sc (i + 3)) (sc (i + 4)) F B = some (r1, F1, B1)) (h2 : f_M_note_0 Kr (sc (i + 1)) (sc (i + 2)) (sc (i + 3)) (sc (i + 4)) Fm Bm = some (r2, F2, B2)) : ls_8 Kr x sc n i K F B Fm Bm = some (K, F1, B1, F2, B2) := by
  unfold ls_8
  rw [if_pos (show 0 ≤ (i + 1) ∧ (i + 1) < n from ⟨by omega, by omega⟩)]
  rw [if_pos (show 0 ≤ (i + 2) ∧ (i + 2) < n from ⟨by omega, by omega⟩)]
  rw [if_pos (show 0 ≤ (i + 3) ∧ (i + 3) < n from ⟨by omega, by omega⟩)]
  rw [if_pos (show 0 ≤ (i + 4) ∧ (i + 4) < n from ⟨by omega, by omega⟩)]
  rw [if_pos hx]
  rw [zbL_some h1]
  rw [if_pos (show 0 ≤ (i + 1) ∧ (i + 1) < n from ⟨by omega, by omega⟩)]
  rw [if_pos (show 0 ≤ (i + 2) ∧ (i + 2) < n from ⟨by omega, by omega⟩)]
  rw [if_pos (show 0 ≤ (i + 3) ∧ (i + 3) < n from ⟨by omega, by omega⟩)]
  rw [if_pos (show 0 ≤ (i + 4) ∧ (i + 4) < n from ⟨by omega, by omega⟩)]
  rw [zbL_some h2]
theorem lst_9 {Kr : Nat} {x n i : Int} {sc : Int → Int} {K K1 : zK} {F Fm F1 F2 : zF} {B Bm B1 B2 : zB} {r1 r2 : Int} (hi : 0 ≤ i) (hn : i + 9 ≤ n) (hx : 0 ≤ x ∧ x < K.2 12) (h1 : f_S_lines K x (sc (i + 1)) (sc (i + 2)) F B = some (r1, F1, B1, K1)) (h2 : f_M_lines Kr (sc (i + 1)) (sc (i + 2)) Fm Bm = some (r2, F2, B2)) : ls_9 Kr x sc n i K F B Fm Bm = some (K1, F1, B1, F2, B2) := by
  unfold ls_9
  rw [if_pos (show 0 ≤ (i + 1) ∧ (i + 1) < n from ⟨by omega, by omega⟩)]
  rw [if_pos (show 0 ≤ (i + 2) ∧ (i + 2) < n from ⟨by omega, by omega⟩)]
  rw [if_pos hx]
  rw [zbM_some h1]
  rw [if_pos (show 0 ≤ (i + 1) ∧ (i + 1) < n from ⟨by omega, by omega⟩)]
  rw [if_pos (show 0 ≤ (i + 2) ∧ (i + 2) < n from ⟨by omega, by omega⟩)]
  rw [zbL_some h2]
theorem lst_10 {Kr : Nat} {x n i : Int} {sc : Int → Int} {K : zK} {F Fm F1 F2 : zF} {B Bm B1 B2 : zB} {r1 r2 : Int} (hi : 0 ≤ i) (hn : i + 9 ≤ n) (hx : 0 ≤ x ∧ x < K.2 12) (h1 : f_S_line K x (sc (i + 1)) (sc (i + 2)) (sc (i + 3)) F B = some (r1, F1, B1)) (h2 : f_M_line Kr (sc (i + 1)) (sc (i + 2)) (sc (i + 3)) Fm Bm = some (r2, F2, B2)) : ls_10 Kr x sc n i K F B Fm Bm = some (K, F1, B1, F2, B2) := by
  unfold ls_10
  rw [if_pos (show 0 ≤ (i + 1) ∧ (i + 1) < n from ⟨by omega, by omega⟩)]
  rw [if_pos (show 0 ≤ (i + 2) ∧ (i + 2) < n from ⟨by omega, by omega⟩)]
  rw [if_pos (show 0 ≤ (i + 3) ∧ (i + 3) < n from ⟨by omega, by omega⟩)]
  rw [if_pos hx]
  rw [zbL_some h1]
  rw [if_pos (show 0 ≤ (i + 1) ∧ (i + 1) < n from ⟨by omega, by omega⟩)]
  rw [if_pos (show 0 ≤ (i + 2) ∧ (i + 2) < n from ⟨by omega, by omega⟩)]
  rw [if_pos (show 0 ≤ (i + 3) ∧ (i + 3) < n from ⟨by omega, by omega⟩)]
  rw [zbL_some h2]
theorem lst_11 {Kr : Nat} {x n i : Int} {sc : Int → Int} {K : zK} {F Fm F1 F2 : zF} {B Bm B1 B2 : zB} {r1 r2 : Int} (hi : 0 ≤ i) (hn : i + 9 ≤ n) (hx : 0 ≤ x ∧ x < K.2 12) (h1 : f_S_x K x (sc (i + 1)) (sc (i + 2)) (sc (i + 3)) F B = some (r1, F1, B1)) (h2 : f_M_x Kr (sc (i + 1)) (sc (i + 2)) (sc (i + 3)) Fm Bm = some (r2, F2, B2)) : ls_11 Kr x sc n i K F B Fm Bm = some (K, F1, B1, F2, B2) := by
  unfold ls_11
  rw [if_pos (show 0 ≤ (i + 1) ∧ (i + 1) < n from ⟨by omega, by omega⟩)]
  rw [if_pos (show 0 ≤ (i + 2) ∧ (i + 2) < n from ⟨by omega, by omega⟩)]
  rw [if_pos (show 0 ≤ (i + 3) ∧ (i + 3) < n from ⟨by omega, by omega⟩)]
  rw [if_pos hx]
  rw [zbL_some h1]
  rw [if_pos (show 0 ≤ (i + 1) ∧ (i + 1) < n from ⟨by omega, by omega⟩)]
  rw [if_pos (show 0 ≤ (i + 2) ∧ (i + 2) < n from ⟨by omega, by omega⟩)]
  rw [if_pos (show 0 ≤ (i + 3) ∧ (i + 3) < n from ⟨by omega, by omega⟩)]
  rw [zbL_some h2]
theorem lst_12 {Kr : Nat} {x n i : Int} {sc : Int → Int} {K K1 : zK} {F Fm F1 F2 : zF} {B Bm B1 B2 : zB} {r1 r2 : Int} (hi : 0 ≤ i) (hn : i + 9 ≤ n) (hx : 0 ≤ x ∧ x < K.2 12) (h1 : f_S_perform K x (sc (i + 1)) F B = some (r1, F1, B1, K1)) (h2 : f_M_perform Kr (sc (i + 1)) Fm Bm = some (r2, F2, B2)) : ls_12 Kr x sc n i K F B Fm Bm = some (K1, F1, B1, F2, B2) := by
  unfold ls_12
  rw [if_pos (show 0 ≤ (i + 1) ∧ (i + 1) < n from ⟨by omega, by omega⟩)]
  rw [if_pos hx]
  rw [zbM_some h1]
  rw [if_pos (show 0 ≤ (i + 1) ∧ (i + 1) < n from ⟨by omega, by omega⟩)]
  rw [zbL_some h2]
theorem lst_13 {Kr : Nat} {x n i : Int} {sc : Int → Int} {K : zK} {F Fm F1 F2 : zF} {B Bm B1 B2 : zB} {r1 r2 : Int} (hi : 0 ≤ i) (hn : i + 9 ≤ n) (hx : 0 ≤ x ∧ x < K.2 12) (h1 : f_S_stroke K x (sc (i + 1)) (sc (i + 2)) (sc (i + 3)) F B = some (r1, F1, B1)) (h2 : f_M_stroke Kr (sc (i + 1)) (sc (i + 2)) (sc (i + 3)) Fm Bm = some (r2, F2, B2)) : ls_13 Kr x sc n i K F B Fm Bm = some (K, F1, B1, F2, B2) := by
  unfold ls_13
  rw [if_pos (show 0 ≤ (i + 1) ∧ (i + 1) < n from ⟨by omega, by omega⟩)]
  rw [if_pos (show 0 ≤ (i + 2) ∧ (i + 2) < n from ⟨by omega, by omega⟩)]
  rw [if_pos (show 0 ≤ (i + 3) ∧ (i + 3) < n from ⟨by omega, by omega⟩)]
  rw [if_pos hx]
  rw [zbL_some h1]
  rw [if_pos (show 0 ≤ (i + 1) ∧ (i + 1) < n from ⟨by omega, by omega⟩)]
  rw [if_pos (show 0 ≤ (i + 2) ∧ (i + 2) < n from ⟨by omega, by omega⟩)]
  rw [if_pos (show 0 ≤ (i + 3) ∧ (i + 3) < n from ⟨by omega, by omega⟩)]
  rw [zbL_some h2]
theorem lst_14 {Kr : Nat} {x n i : Int} {sc : Int → Int} {K : zK} {F Fm F1 F2 : zF} {B Bm B1 B2 : zB} {r1 r2 : Int} (hi : 0 ≤ i) (hn : i + 9 ≤ n) (hx : 0 ≤ x ∧ x < K.2 12) (h1 : f_S_file K x (sc (i + 1)) F B = some (r1, F1, B1)) (h2 : f_M_file Kr (sc (i + 1)) Fm Bm = some (r2, F2, B2)) : ls_14 Kr x sc n i K F B Fm Bm = some (K, F1, B1, F2, B2) := by
  unfold ls_14
  rw [if_pos (show 0 ≤ (i + 1) ∧ (i + 1) < n from ⟨by omega, by omega⟩)]
  rw [if_pos hx]
  rw [zbL_some h1]
  rw [if_pos (show 0 ≤ (i + 1) ∧ (i + 1) < n from ⟨by omega, by omega⟩)]
  rw [zbL_some h2]
theorem lst_15 {Kr : Nat} {x n i : Int} {sc : Int → Int} {K : zK} {F Fm F1 F2 : zF} {B Bm B1 B2 : zB} {r1 r2 : Int} (hi : 0 ≤ i) (hn : i + 9 ≤ n) (hx : 0 ≤ x ∧ x < K.2 12) (h1 : f_S_out K x (sc (i + 1)) F B = some (r1, F1, B1)) (h2 : f_M_out Kr (sc (i + 1)) Fm Bm = some (r2, F2, B2)) : ls_15 Kr x sc n i K F B Fm Bm = some (K, F1, B1, F2, B2) := by
  unfold ls_15
  rw [if_pos (show 0 ≤ (i + 1) ∧ (i + 1) < n from ⟨by omega, by omega⟩)]
  rw [if_pos hx]
  rw [zbL_some h1]
  rw [if_pos (show 0 ≤ (i + 1) ∧ (i + 1) < n from ⟨by omega, by omega⟩)]
  rw [zbL_some h2]
theorem lst_16 {Kr : Nat} {x n i : Int} {sc : Int → Int} {K : zK} {F Fm F1 F2 : zF} {B Bm B1 B2 : zB} {r1 r2 : Int} (hi : 0 ≤ i) (hn : i + 9 ≤ n) (hx : 0 ≤ x ∧ x < K.2 12) (h1 : f_S_again K x F B = some (r1, F1, B1)) (h2 : f_M_again Kr Fm Bm = some (r2, F2, B2)) : ls_16 Kr x sc n i K F B Fm Bm = some (K, F1, B1, F2, B2) := by
  unfold ls_16
  rw [if_pos hx]
  rw [zbL_some h1]
  rw [zbL_some h2]
theorem lst_17 {Kr : Nat} {x n i : Int} {sc : Int → Int} {K K1 : zK} {F Fm F1 F2 : zF} {B Bm B1 B2 : zB} {r1 r2 : Int} (hi : 0 ≤ i) (hn : i + 9 ≤ n) (hx : 0 ≤ x ∧ x < K.2 12) (h1 : f_S_open K x F B = some (r1, F1, B1, K1)) (h2 : f_M_open Kr Fm Bm = some (r2, F2, B2)) : ls_17 Kr x sc n i K F B Fm Bm = some (K1, F1, B1, F2, B2) := by
  unfold ls_17
  rw [if_pos hx]
  rw [zbM_some h1]
  rw [zbL_some h2]
theorem lst_18 {Kr : Nat} {x n i : Int} {sc : Int → Int} {K : zK} {F Fm F1 F2 : zF} {B Bm B1 B2 : zB} {r1 r2 : Int} (hi : 0 ≤ i) (hn : i + 9 ≤ n) (hx : 0 ≤ x ∧ x < K.2 12) (h1 : f_S_track K x (sc (i + 1)) F B = some (r1, F1, B1)) (h2 : f_M_track Kr (sc (i + 1)) Fm Bm = some (r2, F2, B2)) : ls_18 Kr x sc n i K F B Fm Bm = some (K, F1, B1, F2, B2) := by
  unfold ls_18
  rw [if_pos (show 0 ≤ (i + 1) ∧ (i + 1) < n from ⟨by omega, by omega⟩)]
  rw [if_pos hx]
  rw [zbL_some h1]
  rw [if_pos (show 0 ≤ (i + 1) ∧ (i + 1) < n from ⟨by omega, by omega⟩)]
  rw [zbL_some h2]
theorem lst_19 {Kr : Nat} {x n i : Int} {sc : Int → Int} {K : zK} {F Fm F1 F2 : zF} {B Bm B1 B2 : zB} {r1 r2 : Int} (hi : 0 ≤ i) (hn : i + 9 ≤ n) (hx : 0 ≤ x ∧ x < K.2 12) (h1 : f_S_sound K x (sc (i + 1)) (sc (i + 2)) F B = some (r1, F1, B1)) (h2 : f_M_sound_0 Kr (sc (i + 1)) (sc (i + 2)) Fm Bm = some (r2, F2, B2)) : ls_19 Kr x sc n i K F B Fm Bm = some (K, F1, B1, F2, B2) := by
  unfold ls_19
  rw [if_pos (show 0 ≤ (i + 1) ∧ (i + 1) < n from ⟨by omega, by omega⟩)]
  rw [if_pos (show 0 ≤ (i + 2) ∧ (i + 2) < n from ⟨by omega, by omega⟩)]
  rw [if_pos hx]
  rw [zbL_some h1]
  rw [if_pos (show 0 ≤ (i + 1) ∧ (i + 1) < n from ⟨by omega, by omega⟩)]
  rw [if_pos (show 0 ≤ (i + 2) ∧ (i + 2) < n from ⟨by omega, by omega⟩)]
  rw [zbL_some h2]
theorem lst_20 {Kr : Nat} {x n i : Int} {sc : Int → Int} {K : zK} {F Fm F1 F2 : zF} {B Bm B1 B2 : zB} {r1 r2 : Int} (hi : 0 ≤ i) (hn : i + 9 ≤ n) (hx : 0 ≤ x ∧ x < K.2 12) (h1 : f_S_down K x (sc (i + 1)) F B = some (r1, F1, B1)) (h2 : f_M_down Kr (sc (i + 1)) Fm Bm = some (r2, F2, B2)) : ls_20 Kr x sc n i K F B Fm Bm = some (K, F1, B1, F2, B2) := by
  unfold ls_20
  rw [if_pos (show 0 ≤ (i + 1) ∧ (i + 1) < n from ⟨by omega, by omega⟩)]
  rw [if_pos hx]
  rw [zbL_some h1]
  rw [if_pos (show 0 ≤ (i + 1) ∧ (i + 1) < n from ⟨by omega, by omega⟩)]
  rw [zbL_some h2]
theorem lst_21 {Kr : Nat} {x n i : Int} {sc : Int → Int} {K : zK} {F Fm F1 F2 : zF} {B Bm B1 B2 : zB} {r1 r2 : Int} (hi : 0 ≤ i) (hn : i + 9 ≤ n) (hx : 0 ≤ x ∧ x < K.2 12) (h1 : f_S_play K x (sc (i + 1)) (sc (i + 2)) F B = some (r1, F1, B1)) (h2 : f_M_play Kr (sc (i + 1)) (sc (i + 2)) Fm Bm = some (r2, F2, B2)) : ls_21 Kr x sc n i K F B Fm Bm = some (K, F1, B1, F2, B2) := by
  unfold ls_21
  rw [if_pos (show 0 ≤ (i + 1) ∧ (i + 1) < n from ⟨by omega, by omega⟩)]
  rw [if_pos (show 0 ≤ (i + 2) ∧ (i + 2) < n from ⟨by omega, by omega⟩)]
  rw [if_pos hx]
  rw [zbL_some h1]
  rw [if_pos (show 0 ≤ (i + 1) ∧ (i + 1) < n from ⟨by omega, by omega⟩)]
  rw [if_pos (show 0 ≤ (i + 2) ∧ (i + 2) < n from ⟨by omega, by omega⟩)]
  rw [zbL_some h2]
theorem lst_22 {Kr : Nat} {x n i : Int} {sc : Int → Int} {K : zK} {F Fm F1 F2 : zF} {B Bm B1 B2 : zB} {r1 r2 : Int} (hi : 0 ≤ i) (hn : i + 9 ≤ n) (hx : 0 ≤ x ∧ x < K.2 12) (h1 : f_S_sample K x (sc (i + 1)) (sc (i + 2)) (sc (i + 3)) F B = some (r1, F1, B1)) (h2 : f_M_sample Kr (sc (i + 1)) (sc (i + 2)) (sc (i + 3)) Fm Bm = some (r2, F2, B2)) : ls_22 Kr x sc n i K F B Fm Bm = some (K, F1, B1, F2, B2) := by
  unfold ls_22
  rw [if_pos (show 0 ≤ (i + 1) ∧ (i + 1) < n from ⟨by omega, by omega⟩)]
  rw [if_pos (show 0 ≤ (i + 2) ∧ (i + 2) < n from ⟨by omega, by omega⟩)]
  rw [if_pos (show 0 ≤ (i + 3) ∧ (i + 3) < n from ⟨by omega, by omega⟩)]
  rw [if_pos hx]
  rw [zbL_some h1]
  rw [if_pos (show 0 ≤ (i + 1) ∧ (i + 1) < n from ⟨by omega, by omega⟩)]
  rw [if_pos (show 0 ≤ (i + 2) ∧ (i + 2) < n from ⟨by omega, by omega⟩)]
  rw [if_pos (show 0 ≤ (i + 3) ∧ (i + 3) < n from ⟨by omega, by omega⟩)]
  rw [zbL_some h2]
theorem lst_23 {Kr : Nat} {x n i : Int} {sc : Int → Int} {K K1 : zK} {F Fm F1 F2 : zF} {B Bm B1 B2 : zB} {r1 r2 : Int} (hi : 0 ≤ i) (hn : i + 9 ≤ n) (hx : 0 ≤ x ∧ x < K.2 12) (h1 : f_S_moment K x (sc (i + 1)) (sc (i + 2)) (sc (i + 3)) F B = some (r1, F1, B1, K1)) (h2 : f_M_moment_0 Kr (sc (i + 1)) (sc (i + 2)) (sc (i + 3)) Fm Bm = some (r2, F2, B2)) : ls_23 Kr x sc n i K F B Fm Bm = some (K1, F1, B1, F2, B2) := by
  unfold ls_23
  rw [if_pos (show 0 ≤ (i + 1) ∧ (i + 1) < n from ⟨by omega, by omega⟩)]
  rw [if_pos (show 0 ≤ (i + 2) ∧ (i + 2) < n from ⟨by omega, by omega⟩)]
  rw [if_pos (show 0 ≤ (i + 3) ∧ (i + 3) < n from ⟨by omega, by omega⟩)]
  rw [if_pos hx]
  rw [zbM_some h1]
  rw [if_pos (show 0 ≤ (i + 1) ∧ (i + 1) < n from ⟨by omega, by omega⟩)]
  rw [if_pos (show 0 ≤ (i + 2) ∧ (i + 2) < n from ⟨by omega, by omega⟩)]
  rw [if_pos (show 0 ≤ (i + 3) ∧ (i + 3) < n from ⟨by omega, by omega⟩)]
  rw [zbL_some h2]
theorem lst_24 {Kr : Nat} {x n i : Int} {sc : Int → Int} {K K1 : zK} {F Fm F1 F2 : zF} {B Bm B1 B2 : zB} {r1 r2 : Int} (hi : 0 ≤ i) (hn : i + 9 ≤ n) (hx : 0 ≤ x ∧ x < K.2 12) (h1 : f_S_fault K x (sc (i + 1)) (sc (i + 2)) (sc (i + 3)) F B = some (r1, F1, B1, K1)) (h2 : f_M_fault_0 Kr (sc (i + 1)) (sc (i + 2)) (sc (i + 3)) Fm Bm = some (r2, F2, B2)) : ls_24 Kr x sc n i K F B Fm Bm = some (K1, F1, B1, F2, B2) := by
  unfold ls_24
  rw [if_pos (show 0 ≤ (i + 1) ∧ (i + 1) < n from ⟨by omega, by omega⟩)]
  rw [if_pos (show 0 ≤ (i + 2) ∧ (i + 2) < n from ⟨by omega, by omega⟩)]
  rw [if_pos (show 0 ≤ (i + 3) ∧ (i + 3) < n from ⟨by omega, by omega⟩)]
  rw [if_pos hx]
  rw [zbM_some h1]
  rw [if_pos (show 0 ≤ (i + 1) ∧ (i + 1) < n from ⟨by omega, by omega⟩)]
  rw [if_pos (show 0 ≤ (i + 2) ∧ (i + 2) < n from ⟨by omega, by omega⟩)]
  rw [if_pos (show 0 ≤ (i + 3) ∧ (i + 3) < n from ⟨by omega, by omega⟩)]
  rw [zbL_some h2]
theorem lst_25 {Kr : Nat} {x n i : Int} {sc : Int → Int} {K : zK} {F Fm F1 F2 : zF} {B Bm B1 B2 : zB} {r1 r2 : Int} (hi : 0 ≤ i) (hn : i + 9 ≤ n) (hx : 0 ≤ x ∧ x < K.2 12) (h1 : f_S_follows K x (sc (i + 1)) (sc (i + 2)) (sc (i + 3)) (sc (i + 4)) F B = some (r1, F1, B1)) (h2 : f_M_follows Kr (sc (i + 1)) (sc (i + 2)) (sc (i + 3)) (sc (i + 4)) Fm Bm = some (r2, F2, B2)) : ls_25 Kr x sc n i K F B Fm Bm = some (K, F1, B1, F2, B2) := by
  unfold ls_25
  rw [if_pos (show 0 ≤ (i + 1) ∧ (i + 1) < n from ⟨by omega, by omega⟩)]
  rw [if_pos (show 0 ≤ (i + 2) ∧ (i + 2) < n from ⟨by omega, by omega⟩)]
  rw [if_pos (show 0 ≤ (i + 3) ∧ (i + 3) < n from ⟨by omega, by omega⟩)]
  rw [if_pos (show 0 ≤ (i + 4) ∧ (i + 4) < n from ⟨by omega, by omega⟩)]
  rw [if_pos hx]
  rw [zbL_some h1]
  rw [if_pos (show 0 ≤ (i + 1) ∧ (i + 1) < n from ⟨by omega, by omega⟩)]
  rw [if_pos (show 0 ≤ (i + 2) ∧ (i + 2) < n from ⟨by omega, by omega⟩)]
  rw [if_pos (show 0 ≤ (i + 3) ∧ (i + 3) < n from ⟨by omega, by omega⟩)]
  rw [if_pos (show 0 ≤ (i + 4) ∧ (i + 4) < n from ⟨by omega, by omega⟩)]
  rw [zbL_some h2]
theorem lst_26 {Kr : Nat} {x n i : Int} {sc : Int → Int} {K : zK} {F Fm F1 F2 : zF} {B Bm B1 B2 : zB} {r1 r2 : Int} (hi : 0 ≤ i) (hn : i + 9 ≤ n) (hx : 0 ≤ x ∧ x < K.2 12) (h1 : f_S_shape K x (sc (i + 1)) (sc (i + 2)) (sc (i + 3)) (sc (i + 4)) (sc (i + 5)) (sc (i + 6)) (sc (i + 7)) (sc (i + 8)) F B = some (r1, F1, B1)) (h2 : f_M_shape Kr (sc (i + 1)) (sc (i + 2)) (sc (i + 3)) (sc (i + 4)) (sc (i + 5)) (sc (i + 6)) (sc (i + 7)) (sc (i + 8)) Fm Bm = some (r2, F2, B2)) : ls_26 Kr x sc n i K F B Fm Bm = some (K, F1, B1, F2, B2) := by
  unfold ls_26
  rw [if_pos (show 0 ≤ (i + 1) ∧ (i + 1) < n from ⟨by omega, by omega⟩)]
  rw [if_pos (show 0 ≤ (i + 2) ∧ (i + 2) < n from ⟨by omega, by omega⟩)]
  rw [if_pos (show 0 ≤ (i + 3) ∧ (i + 3) < n from ⟨by omega, by omega⟩)]
  rw [if_pos (show 0 ≤ (i + 4) ∧ (i + 4) < n from ⟨by omega, by omega⟩)]
  rw [if_pos (show 0 ≤ (i + 5) ∧ (i + 5) < n from ⟨by omega, by omega⟩)]
  rw [if_pos (show 0 ≤ (i + 6) ∧ (i + 6) < n from ⟨by omega, by omega⟩)]
  rw [if_pos (show 0 ≤ (i + 7) ∧ (i + 7) < n from ⟨by omega, by omega⟩)]
  rw [if_pos (show 0 ≤ (i + 8) ∧ (i + 8) < n from ⟨by omega, by omega⟩)]
  rw [if_pos hx]
  rw [zbL_some h1]
  rw [if_pos (show 0 ≤ (i + 1) ∧ (i + 1) < n from ⟨by omega, by omega⟩)]
  rw [if_pos (show 0 ≤ (i + 2) ∧ (i + 2) < n from ⟨by omega, by omega⟩)]
  rw [if_pos (show 0 ≤ (i + 3) ∧ (i + 3) < n from ⟨by omega, by omega⟩)]
  rw [if_pos (show 0 ≤ (i + 4) ∧ (i + 4) < n from ⟨by omega, by omega⟩)]
  rw [if_pos (show 0 ≤ (i + 5) ∧ (i + 5) < n from ⟨by omega, by omega⟩)]
  rw [if_pos (show 0 ≤ (i + 6) ∧ (i + 6) < n from ⟨by omega, by omega⟩)]
  rw [if_pos (show 0 ≤ (i + 7) ∧ (i + 7) < n from ⟨by omega, by omega⟩)]
  rw [if_pos (show 0 ≤ (i + 8) ∧ (i + 8) < n from ⟨by omega, by omega⟩)]
  rw [zbL_some h2]
/-- p3 out of one invariant: the 27 calls return on both sides and keep it, end answers alike -/
theorem zPure_by {Kr kf : Nat} {Inv : zK → zF → zB → zF → zB → Prop} {F Fm : zF} {B Bm : zB} {K Km : zK} (s1 : f_S_init (kf, fun _ => 0) zF0 zB0 = some (0, F, B, K)) (s2 : f_M_init (20, fun _ => 0) zF0 zB0 = some (0, Fm, Bm, Km)) (s3 : ∀ c, Km.2 c = nM c) (s4 : Inv K F B Fm Bm) (hx : ∀ {K : zK} {F Fm : zF} {B Bm : zB}, Inv K F B Fm Bm → 0 ≤ (0 : Int) ∧ (0 : Int) < K.2 12)
    (hroom : ∀ {K' : zK} {F Fm : zF} {B Bm : zB}, Inv K' F B Fm Bm → 282 + cwC K K' ≤ 600000 ∧ 716534 + swC K K' ≤ 7302250)
    (p0 : ∀ (a1 : Int) (a2 : Int) (a3 : Int) (a4 : Int) (a5 : Int), r32 a1 → r32 a2 → r32 a3 → r32 a4 → r32 a5 → ∀ {K : zK} {F Fm : zF} {B Bm : zB}, Inv K F B Fm Bm → ∃ r1 F1 B1 r2 F2 B2, f_S_feed K 0 a1 a2 a3 a4 a5 F B = some (r1, F1, B1) ∧ f_M_feed Kr a1 a2 a3 a4 a5 Fm Bm = some (r2, F2, B2) ∧ Inv K F1 B1 F2 B2)
    (p1 : ∀ (a1 : Int), r32 a1 → ∀ {K : zK} {F Fm : zF} {B Bm : zB}, Inv K F B Fm Bm → ∃ r1 F1 B1 r2 F2 B2, f_S_end K 0 a1 F B = some (r1, F1, B1) ∧ f_M_end Kr a1 Fm Bm = some (r2, F2, B2) ∧ Inv K F1 B1 F2 B2 ∧ r1 = r2 ∧ r32 r1)
    (p2 : ∀ (a1 : Int), r32 a1 → ∀ {K : zK} {F Fm : zF} {B Bm : zB}, Inv K F B Fm Bm → ∃ r1 F1 B1 K1 r2 F2 B2, f_S_read K 0 a1 F B = some (r1, F1, B1, K1) ∧ f_M_read Kr a1 Fm Bm = some (r2, F2, B2) ∧ Inv K1 F1 B1 F2 B2)
    (p3 : ∀ (a1 : Int) (a2 : Int), r32 a1 → r32 a2 → ∀ {K : zK} {F Fm : zF} {B Bm : zB}, Inv K F B Fm Bm → ∃ r1 F1 B1 K1 r2 F2 B2, f_S_look K 0 a1 a2 F B = some (r1, F1, B1, K1) ∧ f_M_look Kr a1 a2 Fm Bm = some (r2, F2, B2) ∧ Inv K1 F1 B1 F2 B2)
    (p4 : ∀ (a1 : Int) (a2 : Int) (a3 : Int), r32 a1 → r32 a2 → r32 a3 → ∀ {K : zK} {F Fm : zF} {B Bm : zB}, Inv K F B Fm Bm → ∃ r1 F1 B1 r2 F2 B2, f_S_voice K 0 a1 a2 a3 F B = some (r1, F1, B1) ∧ f_M_voice Kr a1 a2 a3 Fm Bm = some (r2, F2, B2) ∧ Inv K F1 B1 F2 B2)
    (p5 : ∀ (a1 : Int) (a2 : Int), r32 a1 → r32 a2 → ∀ {K : zK} {F Fm : zF} {B Bm : zB}, Inv K F B Fm Bm → ∃ r1 F1 B1 r2 F2 B2, f_S_name K 0 a1 a2 F B = some (r1, F1, B1) ∧ f_M_name Kr a1 a2 Fm Bm = some (r2, F2, B2) ∧ Inv K F1 B1 F2 B2)
    (p6 : ∀ (a1 : Int) (a2 : Int) (a3 : Int) (a4 : Int), r32 a1 → r32 a2 → r32 a3 → r32 a4 → ∀ {K : zK} {F Fm : zF} {B Bm : zB}, Inv K F B Fm Bm → ∃ r1 F1 B1 r2 F2 B2, f_S_event K 0 a1 a2 a3 a4 F B = some (r1, F1, B1) ∧ f_M_event_1 Kr a1 a2 a3 a4 Fm Bm = some (r2, F2, B2) ∧ Inv K F1 B1 F2 B2)
    (p7 : ∀ (a1 : Int) (a2 : Int) (a3 : Int) (a4 : Int) (a5 : Int), r32 a1 → r32 a2 → r32 a3 → r32 a4 → r32 a5 → ∀ {K : zK} {F Fm : zF} {B Bm : zB}, Inv K F B Fm Bm → ∃ r1 F1 B1 r2 F2 B2, f_S_pitch K 0 a1 a2 a3 a4 a5 F B = some (r1, F1, B1) ∧ f_M_pitch Kr a1 a2 a3 a4 a5 Fm Bm = some (r2, F2, B2) ∧ Inv K F1 B1 F2 B2)
    (p8 : ∀ (a1 : Int) (a2 : Int) (a3 : Int) (a4 : Int), r32 a1 → r32 a2 → r32 a3 → r32 a4 → ∀ {K : zK} {F Fm : zF} {B Bm : zB}, Inv K F B Fm Bm → ∃ r1 F1 B1 r2 F2 B2, f_S_note K 0 a1 a2 a3 a4 F B = some (r1, F1, B1) ∧ f_M_note_0 Kr a1 a2 a3 a4 Fm Bm = some (r2, F2, B2) ∧ Inv K F1 B1 F2 B2)
    (p9 : ∀ (a1 : Int) (a2 : Int), r32 a1 → r32 a2 → ∀ {K : zK} {F Fm : zF} {B Bm : zB}, Inv K F B Fm Bm → ∃ r1 F1 B1 K1 r2 F2 B2, f_S_lines K 0 a1 a2 F B = some (r1, F1, B1, K1) ∧ f_M_lines Kr a1 a2 Fm Bm = some (r2, F2, B2) ∧ Inv K1 F1 B1 F2 B2)
    (p10 : ∀ (a1 : Int) (a2 : Int) (a3 : Int), r32 a1 → r32 a2 → r32 a3 → ∀ {K : zK} {F Fm : zF} {B Bm : zB}, Inv K F B Fm Bm → ∃ r1 F1 B1 r2 F2 B2, f_S_line K 0 a1 a2 a3 F B = some (r1, F1, B1) ∧ f_M_line Kr a1 a2 a3 Fm Bm = some (r2, F2, B2) ∧ Inv K F1 B1 F2 B2)
    (p11 : ∀ (a1 : Int) (a2 : Int) (a3 : Int), r32 a1 → r32 a2 → r32 a3 → ∀ {K : zK} {F Fm : zF} {B Bm : zB}, Inv K F B Fm Bm → ∃ r1 F1 B1 r2 F2 B2, f_S_x K 0 a1 a2 a3 F B = some (r1, F1, B1) ∧ f_M_x Kr a1 a2 a3 Fm Bm = some (r2, F2, B2) ∧ Inv K F1 B1 F2 B2)
    (p12 : ∀ (a1 : Int), r32 a1 → ∀ {K : zK} {F Fm : zF} {B Bm : zB}, Inv K F B Fm Bm → ∃ r1 F1 B1 K1 r2 F2 B2, f_S_perform K 0 a1 F B = some (r1, F1, B1, K1) ∧ f_M_perform Kr a1 Fm Bm = some (r2, F2, B2) ∧ Inv K1 F1 B1 F2 B2)
    (p13 : ∀ (a1 : Int) (a2 : Int) (a3 : Int), r32 a1 → r32 a2 → r32 a3 → ∀ {K : zK} {F Fm : zF} {B Bm : zB}, Inv K F B Fm Bm → ∃ r1 F1 B1 r2 F2 B2, f_S_stroke K 0 a1 a2 a3 F B = some (r1, F1, B1) ∧ f_M_stroke Kr a1 a2 a3 Fm Bm = some (r2, F2, B2) ∧ Inv K F1 B1 F2 B2)
    (p14 : ∀ (a1 : Int), r32 a1 → ∀ {K : zK} {F Fm : zF} {B Bm : zB}, Inv K F B Fm Bm → ∃ r1 F1 B1 r2 F2 B2, f_S_file K 0 a1 F B = some (r1, F1, B1) ∧ f_M_file Kr a1 Fm Bm = some (r2, F2, B2) ∧ Inv K F1 B1 F2 B2)
    (p15 : ∀ (a1 : Int), r32 a1 → ∀ {K : zK} {F Fm : zF} {B Bm : zB}, Inv K F B Fm Bm → ∃ r1 F1 B1 r2 F2 B2, f_S_out K 0 a1 F B = some (r1, F1, B1) ∧ f_M_out Kr a1 Fm Bm = some (r2, F2, B2) ∧ Inv K F1 B1 F2 B2)
    (p16 : ∀ {K : zK} {F Fm : zF} {B Bm : zB}, Inv K F B Fm Bm → ∃ r1 F1 B1 r2 F2 B2, f_S_again K 0 F B = some (r1, F1, B1) ∧ f_M_again Kr Fm Bm = some (r2, F2, B2) ∧ Inv K F1 B1 F2 B2)
    (p17 : ∀ {K : zK} {F Fm : zF} {B Bm : zB}, Inv K F B Fm Bm → ∃ r1 F1 B1 K1 r2 F2 B2, f_S_open K 0 F B = some (r1, F1, B1, K1) ∧ f_M_open Kr Fm Bm = some (r2, F2, B2) ∧ Inv K1 F1 B1 F2 B2)
    (p18 : ∀ (a1 : Int), r32 a1 → ∀ {K : zK} {F Fm : zF} {B Bm : zB}, Inv K F B Fm Bm → ∃ r1 F1 B1 r2 F2 B2, f_S_track K 0 a1 F B = some (r1, F1, B1) ∧ f_M_track Kr a1 Fm Bm = some (r2, F2, B2) ∧ Inv K F1 B1 F2 B2)
    (p19 : ∀ (a1 : Int) (a2 : Int), r32 a1 → r32 a2 → ∀ {K : zK} {F Fm : zF} {B Bm : zB}, Inv K F B Fm Bm → ∃ r1 F1 B1 r2 F2 B2, f_S_sound K 0 a1 a2 F B = some (r1, F1, B1) ∧ f_M_sound_0 Kr a1 a2 Fm Bm = some (r2, F2, B2) ∧ Inv K F1 B1 F2 B2)
    (p20 : ∀ (a1 : Int), r32 a1 → ∀ {K : zK} {F Fm : zF} {B Bm : zB}, Inv K F B Fm Bm → ∃ r1 F1 B1 r2 F2 B2, f_S_down K 0 a1 F B = some (r1, F1, B1) ∧ f_M_down Kr a1 Fm Bm = some (r2, F2, B2) ∧ Inv K F1 B1 F2 B2)
    (p21 : ∀ (a1 : Int) (a2 : Int), r32 a1 → r32 a2 → ∀ {K : zK} {F Fm : zF} {B Bm : zB}, Inv K F B Fm Bm → ∃ r1 F1 B1 r2 F2 B2, f_S_play K 0 a1 a2 F B = some (r1, F1, B1) ∧ f_M_play Kr a1 a2 Fm Bm = some (r2, F2, B2) ∧ Inv K F1 B1 F2 B2)
    (p22 : ∀ (a1 : Int) (a2 : Int) (a3 : Int), r32 a1 → r32 a2 → r32 a3 → ∀ {K : zK} {F Fm : zF} {B Bm : zB}, Inv K F B Fm Bm → ∃ r1 F1 B1 r2 F2 B2, f_S_sample K 0 a1 a2 a3 F B = some (r1, F1, B1) ∧ f_M_sample Kr a1 a2 a3 Fm Bm = some (r2, F2, B2) ∧ Inv K F1 B1 F2 B2)
    (p23 : ∀ (a1 : Int) (a2 : Int) (a3 : Int), r32 a1 → r32 a2 → r32 a3 → ∀ {K : zK} {F Fm : zF} {B Bm : zB}, Inv K F B Fm Bm → ∃ r1 F1 B1 K1 r2 F2 B2, f_S_moment K 0 a1 a2 a3 F B = some (r1, F1, B1, K1) ∧ f_M_moment_0 Kr a1 a2 a3 Fm Bm = some (r2, F2, B2) ∧ Inv K1 F1 B1 F2 B2)
    (p24 : ∀ (a1 : Int) (a2 : Int) (a3 : Int), r32 a1 → r32 a2 → r32 a3 → ∀ {K : zK} {F Fm : zF} {B Bm : zB}, Inv K F B Fm Bm → ∃ r1 F1 B1 K1 r2 F2 B2, f_S_fault K 0 a1 a2 a3 F B = some (r1, F1, B1, K1) ∧ f_M_fault_0 Kr a1 a2 a3 Fm Bm = some (r2, F2, B2) ∧ Inv K1 F1 B1 F2 B2)
    (p25 : ∀ (a1 : Int) (a2 : Int) (a3 : Int) (a4 : Int), r32 a1 → r32 a2 → r32 a3 → r32 a4 → ∀ {K : zK} {F Fm : zF} {B Bm : zB}, Inv K F B Fm Bm → ∃ r1 F1 B1 r2 F2 B2, f_S_follows K 0 a1 a2 a3 a4 F B = some (r1, F1, B1) ∧ f_M_follows Kr a1 a2 a3 a4 Fm Bm = some (r2, F2, B2) ∧ Inv K F1 B1 F2 B2)
    (p26 : ∀ (a1 : Int) (a2 : Int) (a3 : Int) (a4 : Int) (a5 : Int) (a6 : Int) (a7 : Int) (a8 : Int), r32 a1 → r32 a2 → r32 a3 → r32 a4 → r32 a5 → r32 a6 → r32 a7 → r32 a8 → ∀ {K : zK} {F Fm : zF} {B Bm : zB}, Inv K F B Fm Bm → ∃ r1 F1 B1 r2 F2 B2, f_S_shape K 0 a1 a2 a3 a4 a5 a6 a7 a8 F B = some (r1, F1, B1) ∧ f_M_shape Kr a1 a2 a3 a4 a5 a6 a7 a8 Fm Bm = some (r2, F2, B2) ∧ Inv K F1 B1 F2 B2) : zPure := by
  refine zPure_of (Kr := Kr) s1 s2 s3 s4 (fun sc hsc => ?_) hroom
  intro n i K F Fm B Bm hn4 hi hn hI
  unfold lstep
  by_cases h0 : zand (sc i) 31 = 0
  · rw [if_pos h0]
    obtain ⟨r1, F1, B1, r2, F2, B2, h1, h2, hI1⟩ := p0 (sc (i + 1)) (sc (i + 2)) (sc (i + 3)) (sc (i + 4)) (sc (i + 5)) (hsc _) (hsc _) (hsc _) (hsc _) (hsc _) hI
    exact ⟨_, _, _, _, _, lst_0 hi hn (hx hI) h1 h2, hI1⟩
  rw [if_neg h0]
  by_cases h1 : zand (sc i) 31 = 1
  · rw [if_pos h1]
    obtain ⟨r1, F1, B1, r2, F2, B2, h1, h2, hI1, he, hr⟩ := p1 (sc (i + 1)) (hsc _) hI
    exact ⟨_, _, _, _, _, lst_1 hi hn (hx hI) h1 h2 he hr, hI1⟩
  rw [if_neg h1]
  by_cases h2 : zand (sc i) 31 = 2
  · rw [if_pos h2]
    obtain ⟨r1, F1, B1, K1, r2, F2, B2, h1, h2, hI1⟩ := p2 (sc (i + 1)) (hsc _) hI
    exact ⟨_, _, _, _, _, lst_2 hi hn (hx hI) h1 h2, hI1⟩
  rw [if_neg h2]
  by_cases h3 : zand (sc i) 31 = 3
  · rw [if_pos h3]
    obtain ⟨r1, F1, B1, K1, r2, F2, B2, h1, h2, hI1⟩ := p3 (sc (i + 1)) (sc (i + 2)) (hsc _) (hsc _) hI
    exact ⟨_, _, _, _, _, lst_3 hi hn (hx hI) h1 h2, hI1⟩
  rw [if_neg h3]
  by_cases h4 : zand (sc i) 31 = 4
  · rw [if_pos h4]
    obtain ⟨r1, F1, B1, r2, F2, B2, h1, h2, hI1⟩ := p4 (sc (i + 1)) (sc (i + 2)) (sc (i + 3)) (hsc _) (hsc _) (hsc _) hI
    exact ⟨_, _, _, _, _, lst_4 hi hn (hx hI) h1 h2, hI1⟩
  rw [if_neg h4]
  by_cases h5 : zand (sc i) 31 = 5
  · rw [if_pos h5]
    obtain ⟨r1, F1, B1, r2, F2, B2, h1, h2, hI1⟩ := p5 (sc (i + 1)) (sc (i + 2)) (hsc _) (hsc _) hI
    exact ⟨_, _, _, _, _, lst_5 hi hn (hx hI) h1 h2, hI1⟩
  rw [if_neg h5]
  by_cases h6 : zand (sc i) 31 = 6
  · rw [if_pos h6]
    obtain ⟨r1, F1, B1, r2, F2, B2, h1, h2, hI1⟩ := p6 (sc (i + 1)) (sc (i + 2)) (sc (i + 3)) (sc (i + 4)) (hsc _) (hsc _) (hsc _) (hsc _) hI
    exact ⟨_, _, _, _, _, lst_6 hi hn (hx hI) h1 h2, hI1⟩
  rw [if_neg h6]
  by_cases h7 : zand (sc i) 31 = 7
  · rw [if_pos h7]
    obtain ⟨r1, F1, B1, r2, F2, B2, h1, h2, hI1⟩ := p7 (sc (i + 1)) (sc (i + 2)) (sc (i + 3)) (sc (i + 4)) (sc (i + 5)) (hsc _) (hsc _) (hsc _) (hsc _) (hsc _) hI
    exact ⟨_, _, _, _, _, lst_7 hi hn (hx hI) h1 h2, hI1⟩
  rw [if_neg h7]
  by_cases h8 : zand (sc i) 31 = 8
  · rw [if_pos h8]
    obtain ⟨r1, F1, B1, r2, F2, B2, h1, h2, hI1⟩ := p8 (sc (i + 1)) (sc (i + 2)) (sc (i + 3)) (sc (i + 4)) (hsc _) (hsc _) (hsc _) (hsc _) hI
    exact ⟨_, _, _, _, _, lst_8 hi hn (hx hI) h1 h2, hI1⟩
  rw [if_neg h8]
  by_cases h9 : zand (sc i) 31 = 9
  · rw [if_pos h9]
    obtain ⟨r1, F1, B1, K1, r2, F2, B2, h1, h2, hI1⟩ := p9 (sc (i + 1)) (sc (i + 2)) (hsc _) (hsc _) hI
    exact ⟨_, _, _, _, _, lst_9 hi hn (hx hI) h1 h2, hI1⟩
  rw [if_neg h9]
  by_cases h10 : zand (sc i) 31 = 10
  · rw [if_pos h10]
    obtain ⟨r1, F1, B1, r2, F2, B2, h1, h2, hI1⟩ := p10 (sc (i + 1)) (sc (i + 2)) (sc (i + 3)) (hsc _) (hsc _) (hsc _) hI
    exact ⟨_, _, _, _, _, lst_10 hi hn (hx hI) h1 h2, hI1⟩
  rw [if_neg h10]
  by_cases h11 : zand (sc i) 31 = 11
  · rw [if_pos h11]
    obtain ⟨r1, F1, B1, r2, F2, B2, h1, h2, hI1⟩ := p11 (sc (i + 1)) (sc (i + 2)) (sc (i + 3)) (hsc _) (hsc _) (hsc _) hI
    exact ⟨_, _, _, _, _, lst_11 hi hn (hx hI) h1 h2, hI1⟩
  rw [if_neg h11]
  by_cases h12 : zand (sc i) 31 = 12
  · rw [if_pos h12]
    obtain ⟨r1, F1, B1, K1, r2, F2, B2, h1, h2, hI1⟩ := p12 (sc (i + 1)) (hsc _) hI
    exact ⟨_, _, _, _, _, lst_12 hi hn (hx hI) h1 h2, hI1⟩
  rw [if_neg h12]
  by_cases h13 : zand (sc i) 31 = 13
  · rw [if_pos h13]
    obtain ⟨r1, F1, B1, r2, F2, B2, h1, h2, hI1⟩ := p13 (sc (i + 1)) (sc (i + 2)) (sc (i + 3)) (hsc _) (hsc _) (hsc _) hI
    exact ⟨_, _, _, _, _, lst_13 hi hn (hx hI) h1 h2, hI1⟩
  rw [if_neg h13]
  by_cases h14 : zand (sc i) 31 = 14
  · rw [if_pos h14]
    obtain ⟨r1, F1, B1, r2, F2, B2, h1, h2, hI1⟩ := p14 (sc (i + 1)) (hsc _) hI
    exact ⟨_, _, _, _, _, lst_14 hi hn (hx hI) h1 h2, hI1⟩
  rw [if_neg h14]
  by_cases h15 : zand (sc i) 31 = 15
  · rw [if_pos h15]
    obtain ⟨r1, F1, B1, r2, F2, B2, h1, h2, hI1⟩ := p15 (sc (i + 1)) (hsc _) hI
    exact ⟨_, _, _, _, _, lst_15 hi hn (hx hI) h1 h2, hI1⟩
  rw [if_neg h15]
  by_cases h16 : zand (sc i) 31 = 16
  · rw [if_pos h16]
    obtain ⟨r1, F1, B1, r2, F2, B2, h1, h2, hI1⟩ := p16  hI
    exact ⟨_, _, _, _, _, lst_16 hi hn (hx hI) h1 h2, hI1⟩
  rw [if_neg h16]
  by_cases h17 : zand (sc i) 31 = 17
  · rw [if_pos h17]
    obtain ⟨r1, F1, B1, K1, r2, F2, B2, h1, h2, hI1⟩ := p17  hI
    exact ⟨_, _, _, _, _, lst_17 hi hn (hx hI) h1 h2, hI1⟩
  rw [if_neg h17]
  by_cases h18 : zand (sc i) 31 = 18
  · rw [if_pos h18]
    obtain ⟨r1, F1, B1, r2, F2, B2, h1, h2, hI1⟩ := p18 (sc (i + 1)) (hsc _) hI
    exact ⟨_, _, _, _, _, lst_18 hi hn (hx hI) h1 h2, hI1⟩
  rw [if_neg h18]
  by_cases h19 : zand (sc i) 31 = 19
  · rw [if_pos h19]
    obtain ⟨r1, F1, B1, r2, F2, B2, h1, h2, hI1⟩ := p19 (sc (i + 1)) (sc (i + 2)) (hsc _) (hsc _) hI
    exact ⟨_, _, _, _, _, lst_19 hi hn (hx hI) h1 h2, hI1⟩
  rw [if_neg h19]
  by_cases h20 : zand (sc i) 31 = 20
  · rw [if_pos h20]
    obtain ⟨r1, F1, B1, r2, F2, B2, h1, h2, hI1⟩ := p20 (sc (i + 1)) (hsc _) hI
    exact ⟨_, _, _, _, _, lst_20 hi hn (hx hI) h1 h2, hI1⟩
  rw [if_neg h20]
  by_cases h21 : zand (sc i) 31 = 21
  · rw [if_pos h21]
    obtain ⟨r1, F1, B1, r2, F2, B2, h1, h2, hI1⟩ := p21 (sc (i + 1)) (sc (i + 2)) (hsc _) (hsc _) hI
    exact ⟨_, _, _, _, _, lst_21 hi hn (hx hI) h1 h2, hI1⟩
  rw [if_neg h21]
  by_cases h22 : zand (sc i) 31 = 22
  · rw [if_pos h22]
    obtain ⟨r1, F1, B1, r2, F2, B2, h1, h2, hI1⟩ := p22 (sc (i + 1)) (sc (i + 2)) (sc (i + 3)) (hsc _) (hsc _) (hsc _) hI
    exact ⟨_, _, _, _, _, lst_22 hi hn (hx hI) h1 h2, hI1⟩
  rw [if_neg h22]
  by_cases h23 : zand (sc i) 31 = 23
  · rw [if_pos h23]
    obtain ⟨r1, F1, B1, K1, r2, F2, B2, h1, h2, hI1⟩ := p23 (sc (i + 1)) (sc (i + 2)) (sc (i + 3)) (hsc _) (hsc _) (hsc _) hI
    exact ⟨_, _, _, _, _, lst_23 hi hn (hx hI) h1 h2, hI1⟩
  rw [if_neg h23]
  by_cases h24 : zand (sc i) 31 = 24
  · rw [if_pos h24]
    obtain ⟨r1, F1, B1, K1, r2, F2, B2, h1, h2, hI1⟩ := p24 (sc (i + 1)) (sc (i + 2)) (sc (i + 3)) (hsc _) (hsc _) (hsc _) hI
    exact ⟨_, _, _, _, _, lst_24 hi hn (hx hI) h1 h2, hI1⟩
  rw [if_neg h24]
  by_cases h25 : zand (sc i) 31 = 25
  · rw [if_pos h25]
    obtain ⟨r1, F1, B1, r2, F2, B2, h1, h2, hI1⟩ := p25 (sc (i + 1)) (sc (i + 2)) (sc (i + 3)) (sc (i + 4)) (hsc _) (hsc _) (hsc _) (hsc _) hI
    exact ⟨_, _, _, _, _, lst_25 hi hn (hx hI) h1 h2, hI1⟩
  rw [if_neg h25]
  by_cases h26 : zand (sc i) 31 = 26
  · rw [if_pos h26]
    obtain ⟨r1, F1, B1, r2, F2, B2, h1, h2, hI1⟩ := p26 (sc (i + 1)) (sc (i + 2)) (sc (i + 3)) (sc (i + 4)) (sc (i + 5)) (sc (i + 6)) (sc (i + 7)) (sc (i + 8)) (hsc _) (hsc _) (hsc _) (hsc _) (hsc _) (hsc _) (hsc _) (hsc _) hI
    exact ⟨_, _, _, _, _, lst_26 hi hn (hx hI) h1 h2, hI1⟩
  rw [if_neg h26]
  exact ⟨_, _, _, _, _, rfl, hI⟩
