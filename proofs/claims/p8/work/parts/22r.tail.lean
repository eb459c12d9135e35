section
/-! ===== what follows the pitches of an event, on both sides ===== -/
theorem L_202 {o : oT_P} {Km : Nat} {fr : Int} {Fm : zF} {Bm : zB} (hf : 0 ≤ fr ∧ fr ≤ 3000) : f_M_item_202 o Km fr Fm Bm = some (0, Fm, zup4 Bm 14 0 31 fr (Fm 14 0 16)) := by
  unfold f_M_item_202
  rw [if_pos (by first | decide | omega)]
theorem L_marksB {Km : Nat} {fr : Int} {Fm : zF} {Bm : zB} (hK : 3002 ≤ Km) (hf : 0 ≤ fr ∧ fr ≤ 3000) (h : bad Fm) : f_M_marks Km fr Fm Bm = some (0, Fm, zup4 Bm 14 0 34 fr 0) := by
  obtain ⟨m, rfl⟩ : ∃ y, Km = y + 1 := ⟨Km - 1, (by first | decide | omega)⟩
  unfold f_M_marks f_M_marks_7 f_M_marks_68
  rw [if_pos (by first | decide | omega), L_goodB h]
  simp only [zb_s]
  rw [if_pos (by decide), if_pos trivial]
/-- an event's length and marks are taken; j2 is behind them -/
def EVT (N j x fr : Int) (F : zF) (F' : zF) (B' : zB) (Fm' : zF) (Bm' : zB) : Prop := B' 3 0 2 x = lenV (Bm' 14 0 32 fr) (Bm' 14 0 33 fr) ∧ pw2 (Bm' 14 0 32 fr) ∧ (0 ≤ Bm' 14 0 33 fr ∧ Bm' 14 0 33 fr ≤ 2) ∧ B' 3 0 7 x = Bm' 14 0 34 fr ∧ (0 ≤ B' 3 0 7 x ∧ B' 3 0 7 x < 128) ∧ Bm' 14 0 31 fr = Fm' 14 0 16 ∧ F' 3 0 14 = F 3 0 14 ∧ F' 3 0 15 = F 3 0 15 ∧ F' 3 0 18 = F 3 0 18 ∧ ((∃ j', j ≤ j' ∧ PS N j' F' B' Fm' Bm') ∨ DEL N F' B' Fm' Bm')
theorem P_tail91 {o : oT_P} {K : zK} {Km : Nat} {N j x fr : Int} {F : zF} {B : zB} {Fm : zF} {Bm : zB} (hx : 0 ≤ x ∧ x < 3000) (hf : 0 ≤ fr ∧ fr ≤ 3000) (hE : EV K Km N B Bm) (hS : PS N j F B Fm Bm) (h7 : B 3 0 7 x = 0) (h32 : Bm 14 0 32 fr = Fm 14 0 20) (h33 : Bm 14 0 33 fr = Fm 14 0 21) (hdp : 1 ≤ F 3 0 18) : zP (f_Parser_takeEvent_91 K 0 0 x F B) (zbind (f_M_marks Km fr Fm Bm) (fun _ F3 B3 => f_M_item_202 o Km fr F3 B3)) (fun r F' B' _ Fm' Bm' => fF F F' ∧ fG Fm Fm' ∧ fX [2, 7] x (F 3 0 15) B B' ∧ fH fr Bm Bm' ∧ r = 1 ∧ EVT N j x fr F F' B' Fm' Bm') := by
  have k3 := hE.2.2.2.1
  have k1 := hE.2.2.2.2.2.1
  have km := hE.2.2.2.2.2.2
  have hl := PS_pw hS hdp
  have hX1 : fX [2, 7] x (F 3 0 15) B (zup4 B 3 0 2 x (F 3 0 20)) := fX_u fX_r (Or.inl ⟨by decide, rfl⟩)
  have hH1 : fH fr Bm (zup4 Bm 14 0 34 fr 0) := fH_u fH_r (by decide) (by decide) (Int.le_refl _)
  have hB1 := fX_B (lo := x) hX1 (by decide) (Int.le_refl _)
  unfold f_Parser_takeEvent_91 f_Parser_takeMarks f_M_marks f_Parser_takeEvent_110
  rw [if_pos ⟨(by first | decide | omega), k3⟩, if_pos hx, if_pos (by decide), if_pos rfl, if_pos (by first | decide | omega)]
  refine zP_c (P_marks (K := K) (Km := Km) (N := N) (x := x) (fr := fr) hx hf (q := 7) (l := 0) (j := j) (by first | decide | omega) (by first | decide | omega) (by first | decide | omega) (by first | decide | omega) (EV_f hE hB1 hH1) (PS_f hS hB1 hH1) ?_ ?_ ?_) (fun r F' B' r' Fm' Bm' hh => ?_)
  · simp [zup4_v, h7]
  · simp [zup4_v, h7]
  · simp [zup4_v, h7, mcnt]
  · obtain ⟨g1, g2, g3, g4, g5, g6, g7, g8, g9, g10, g11⟩ := hh
    rw [L_202 hf]
    have hH2 : fH fr Bm' (zup4 Bm' 14 0 31 fr (Fm' 14 0 16)) := fH_u fH_r (by decide) (by decide) (Int.le_refl _)
    have e32 : Bm' 14 0 32 fr = Fm 14 0 20 := by rw [g5 32 (by decide)]; simp [zup4_v]; exact h32
    have e33 : Bm' 14 0 33 fr = Fm 14 0 21 := by rw [g5 33 (by decide)]; simp [zup4_v]; exact h33
    refine zP_s ⟨g1, g2, fX_t hX1 (fX_m g3 (by decide) (Int.le_refl _)), fH_t hH1 (fH_t g4 hH2), rfl, ?_, ?_, ?_, ?_, g7, ?_, g8, g9, g10, ?_⟩
    · rw [fX_3 g3 (by decide) (by decide)]
      simp [zup4_v]
      rw [e32, e33]; exact hl.1
    · simp [zup4_v]; rw [e32]; exact hl.2.1
    · simp [zup4_v]; rw [e33]; exact hl.2.2
    · simp [zup4_v]; exact g6
    · simp [zup4_v]
    · rcases g11 with ⟨j', a, b⟩ | d
      · exact Or.inl ⟨j', a, PS_f (lo := 0) (pl := 0) b fB_r hH2⟩
      · refine Or.inr ?_
        obtain ⟨d1, d2, ⟨jj, d3⟩, d4⟩ := d
        refine ⟨d1, d2, ⟨jj, ?_⟩, d4⟩
        unfold CUR at *
        simp only [zup4_v]
        simpa using d3
theorem P_tail0 {o : oT_P} {K : zK} {Km : Nat} {N j x fr : Int} {F : zF} {B : zB} {Fm : zF} {Bm : zB} (hx : 0 ≤ x ∧ x < 3000) (hf : 0 ≤ fr ∧ fr ≤ 3000) (hE : EV K Km N B Bm) (hS : PS N j F B Fm Bm) (h7 : B 3 0 7 x = 0) (hdp : 1 ≤ F 3 0 18) : zP (f_Parser_takeEvent_70 K 0 0 x F B) (zbind (f_M_length Km fr Fm Bm) (fun _ F2 B2 => zbind (f_M_marks Km fr F2 B2) (fun _ F3 B3 => f_M_item_202 o Km fr F3 B3))) (fun r F' B' _ Fm' Bm' => fF F F' ∧ fG Fm Fm' ∧ fX [2, 7] x (F 3 0 15) B B' ∧ fH fr Bm Bm' ∧ (r = 1 ∧ EVT N j x fr F F' B' Fm' Bm' ∨ r = 0 ∧ ERR F' Fm')) := by
  have hg := hS.2.2.2.1
  have hX := PS_CX hE hS
  have hM := PS_MX hE hS
  have e11 := hS.1
  have k3 := hE.2.2.2.1
  have k10 := hE.2.2.2.2.1
  have km := hE.2.2.2.2.2.2
  have s := sgm_r Bm j 58
  unfold f_Parser_takeEvent_70
  rw [if_pos ⟨(by first | decide | omega), k3⟩, e11, if_pos ⟨(by first | decide | omega), k10⟩, C_isSign hX (by decide), PS_sg hE hS]
  simp only [zb_s]
  rw [if_pos (show r32 (sgm Bm j 58) by omega)]
  by_cases z : sgm Bm j 58 = 0
  · rw [if_pos z, L_length0 hf hg hM z]
    simp only [zb_s]
    have hH : fH fr Bm (zup4 (zup4 Bm 14 0 32 fr (Fm 14 0 20)) 14 0 33 fr (Fm 14 0 21)) := fH_l
    refine zP_m (P_tail91 (o := o) hx hf (EV_f hE (fB_r (lo := 0) (pl := 0)) hH) (PS_f hS (fB_r (lo := 0) (pl := 0)) hH) h7 (by simp [zup4_v]) (by simp [zup4_v]) hdp) (fun r F' B' r' Fm' Bm' hh => ?_)
    obtain ⟨g1, g2, g3, g4, g5, g6⟩ := hh
    exact ⟨g1, g2, g3, fH_t hH g4, Or.inl ⟨g5, g6⟩⟩
  · rw [if_neg z]
    refine zP_c (P_takeLength hf hE hS z) (fun r F' B' r' Fm' Bm' hh => ?_)
    obtain ⟨g1, g2, g3, g4l, g5⟩ := hh
    have g4 := fL_H g4l
    subst g1
    rcases g5 with ⟨rfl, j', h1, h2, h3, h4, h5, h6, h8⟩ | ⟨rfl, er⟩
    · rw [if_pos (show r32 1 by decide), if_neg (show ¬ (1 : Int) = 0 by decide)]
      refine zP_m (P_tail91 (o := o) hx hf (EV_f hE (fB_r (lo := 0) (pl := 0)) g4) h2 h7 h3 h4 (by first | decide | omega)) (fun r F'' B'' r' Fm'' Bm'' hh => ?_)
      obtain ⟨q1, q2, q3, q4, q5, q6⟩ := hh
      rw [h6] at q3
      obtain ⟨y1, y2, y3, y4, y5, y6, y7, y8, y9, y10⟩ := q6
      refine ⟨fF_t g2 q1, fG_t g3 q2, q3, fH_t g4 q4, Or.inl ⟨q5, y1, y2, y3, y4, y5, y6, (by first | decide | omega), (by first | decide | omega), (by first | decide | omega), ?_⟩⟩
      rcases y10 with ⟨jj, a, b⟩ | d
      · exact Or.inl ⟨jj, (by first | decide | omega), b⟩
      · exact Or.inr d
    · rw [if_pos (show r32 0 by decide), if_pos rfl, L_marksB km hf er.2]
      simp only [zb_s]
      rw [L_202 hf]
      exact zP_s ⟨g2, g3, fX_r, fH_t g4 (fH_u (fH_u fH_r (by decide) (by decide) (Int.le_refl _)) (by decide) (by decide) (Int.le_refl _)), Or.inr ⟨rfl, er⟩⟩
theorem P_tail1 {o : oT_P} {K : zK} {Km : Nat} {N j x fr : Int} {F : zF} {B : zB} {Fm : zF} {Bm : zB} (hx : 0 ≤ x ∧ x < 3000) (hf : 0 ≤ fr ∧ fr ≤ 3000) (hE : EV K Km N B Bm) (hS : PS N j F B Fm Bm) (h7 : B 3 0 7 x = 0) (h34 : Bm 14 0 34 fr = 0) (hdp : 1 ≤ F 3 0 18) : zP (f_Parser_takeEvent_70 K 1 0 x F B) (zbind (f_M_length Km fr Fm Bm) (fun _ F2 B2 => f_M_item_202 o Km fr F2 B2)) (fun r F' B' _ Fm' Bm' => fF F F' ∧ fG Fm Fm' ∧ fX [2, 7] x (F 3 0 15) B B' ∧ fH fr Bm Bm' ∧ (r = 1 ∧ EVT N j x fr F F' B' Fm' Bm' ∨ r = 0 ∧ ERR F' Fm')) := by
  have hg := hS.2.2.2.1
  have hX := PS_CX hE hS
  have hM := PS_MX hE hS
  have e11 := hS.1
  have k3 := hE.2.2.2.1
  have k10 := hE.2.2.2.2.1
  have km := hE.2.2.2.2.2.2
  have s := sgm_r Bm j 58
  have fin : ∀ {j : Int} {F : zF} {Fm : zF} {Bm : zB}, EV K Km N B Bm → PS N j F B Fm Bm → Bm 14 0 32 fr = Fm 14 0 20 → Bm 14 0 33 fr = Fm 14 0 21 → Bm 14 0 34 fr = 0 → 1 ≤ F 3 0 18 → zP (f_Parser_takeEvent_91 K 1 0 x F B) (f_M_item_202 o Km fr Fm Bm) (fun r F' B' _ Fm' Bm' => fF F F' ∧ fG Fm Fm' ∧ fX [2, 7] x (F 3 0 15) B B' ∧ fH fr Bm Bm' ∧ r = 1 ∧ EVT N j x fr F F' B' Fm' Bm') := by
    intro j F Fm Bm hE hS h32 h33 h34 hdp
    have hl := PS_pw hS hdp
    have hX1 : fX [2, 7] x (F 3 0 15) B (zup4 B 3 0 2 x (F 3 0 20)) := fX_u fX_r (Or.inl ⟨by decide, rfl⟩)
    have hB1 := fX_B (lo := x) hX1 (by decide) (Int.le_refl _)
    have hH2 : fH fr Bm (zup4 Bm 14 0 31 fr (Fm 14 0 16)) := fH_u fH_r (by decide) (by decide) (Int.le_refl _)
    unfold f_Parser_takeEvent_91 f_Parser_takeEvent_110
    rw [if_pos ⟨(by first | decide | omega), k3⟩, if_pos hx, if_pos (by decide), if_neg (by decide), L_202 hf]
    refine zP_s ⟨fF_r, fG_r, hX1, hH2, rfl, ?_, ?_, ?_, ?_, ?_, ?_, rfl, rfl, rfl, Or.inl ⟨j, Int.le_refl _, PS_f hS hB1 hH2⟩⟩
    · simp [zup4_v]; rw [h32, h33]; exact hl.1
    · simp [zup4_v]; rw [h32]; exact hl.2.1
    · simp [zup4_v]; rw [h33]; exact hl.2.2
    · simp [zup4_v]; rw [h7, h34]
    · simp [zup4_v]; rw [h7]; decide
    · simp [zup4_v]
  unfold f_Parser_takeEvent_70
  rw [if_pos ⟨(by first | decide | omega), k3⟩, e11, if_pos ⟨(by first | decide | omega), k10⟩, C_isSign hX (by decide), PS_sg hE hS]
  simp only [zb_s]
  rw [if_pos (show r32 (sgm Bm j 58) by omega)]
  by_cases z : sgm Bm j 58 = 0
  · rw [if_pos z, L_length0 hf hg hM z]
    simp only [zb_s]
    have hH : fH fr Bm (zup4 (zup4 Bm 14 0 32 fr (Fm 14 0 20)) 14 0 33 fr (Fm 14 0 21)) := fH_l
    refine zP_m (fin (EV_f hE (fB_r (lo := 0) (pl := 0)) hH) (PS_f hS (fB_r (lo := 0) (pl := 0)) hH) (by simp [zup4_v]) (by simp [zup4_v]) (by simp [zup4_v]; exact h34) hdp) (fun r F' B' r' Fm' Bm' hh => ?_)
    obtain ⟨g1, g2, g3, g4, g5, g6⟩ := hh
    exact ⟨g1, g2, g3, fH_t hH g4, Or.inl ⟨g5, g6⟩⟩
  · rw [if_neg z]
    refine zP_c (P_takeLength hf hE hS z) (fun r F' B' r' Fm' Bm' hh => ?_)
    obtain ⟨g1, g2, g3, g4l, g5⟩ := hh
    have g4 := fL_H g4l
    have e34 : Bm' 14 0 34 = Bm 14 0 34 := fL_34 g4l 34 (by decide) (by decide)
    subst g1
    rcases g5 with ⟨rfl, j', h1, h2, h3, h4, h5, h6, h8⟩ | ⟨rfl, er⟩
    · rw [if_pos (show r32 1 by decide), if_neg (show ¬ (1 : Int) = 0 by decide)]
      refine zP_m (fin (EV_f hE (fB_r (lo := 0) (pl := 0)) g4) h2 h3 h4 (by rw [e34]; exact h34) (by first | decide | omega)) (fun r F'' B'' r' Fm'' Bm'' hh => ?_)
      obtain ⟨q1, q2, q3, q4, q5, q6⟩ := hh
      rw [h6] at q3
      obtain ⟨y1, y2, y3, y4, y5, y6, y7, y8, y9, y10⟩ := q6
      refine ⟨fF_t g2 q1, fG_t g3 q2, q3, fH_t g4 q4, Or.inl ⟨q5, y1, y2, y3, y4, y5, y6, (by first | decide | omega), (by first | decide | omega), (by first | decide | omega), ?_⟩⟩
      rcases y10 with ⟨jj, a, b⟩ | d
      · exact Or.inl ⟨jj, (by first | decide | omega), b⟩
      · exact Or.inr d
    · rw [if_pos (show r32 0 by decide), if_pos rfl, L_202 hf]
      exact zP_s ⟨g2, g3, fX_r, fH_t g4 (fH_u fH_r (by decide) (by decide) (Int.le_refl _)), Or.inr ⟨rfl, er⟩⟩
end
