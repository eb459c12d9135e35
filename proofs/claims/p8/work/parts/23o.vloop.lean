section
/-! ===== the voices of a text, on both sides ===== -/
def TPO (K : zK) (Km : Nat) (N p w : Int) (F : zF) (B : zB) (Fm : zF) (Bm : zB) (r : Int) (F' : zF) (B' : zB) (K' : zK) (Fm' : zF) (Bm' : zB) : Prop := VF K p w F B Fm Bm K' F' B' Fm' Bm' ∧ GS K' B' ∧ ((r = 0 ∧ ∃ L V, 1 ≤ V ∧ VI K' Km N L V N p w F' B' Fm' Bm') ∨ ((r = Fm' 14 0 17 + 16 * Fm' 14 0 18 ∧ 0 ≤ Fm' 14 0 18 ∧ Fm' 14 0 18 ≤ 3000) ∧ bad Fm'))
theorem C_154e {K : zK} {F : zF} {B : zB} (k3 : 0 < K.2 3) : f_Parser_parse_154 K 0 0 F B = some (F 3 0 21, F, B, K) := by
  unfold f_Parser_parse_154 f_Parser_parse_174
  rw [if_pos (by decide), if_pos rfl, if_pos ⟨Int.le_refl _, k3⟩]
theorem C_119e {K : zK} {n : Nat} {l p : Int} {F : zF} {B : zB} (k3 : 0 < K.2 3) (hl : r32 l) (hn : 0 < n) : f_Parser_parse_119 n K l 0 0 p F B = some (F 3 0 21, F, B, K) := by
  obtain ⟨n, rfl⟩ : ∃ y, n = y + 1 := ⟨n - 1, (by first | decide | omega)⟩
  rw [f_Parser_parse_119]
  rw [if_pos hl, C_154e k3]
  by_cases a : 4 ≤ l
  · rw [if_pos a]
  · rw [if_neg a, if_pos (by decide), if_pos rfl]
theorem L_140B {Km n : Nat} {l : Int} {Fm : zF} {Bm : zB} (hb : bad Fm) (hn : 0 < n) : f_M_text_140 Km n l Fm Bm = some (0, Fm, Bm) := by
  obtain ⟨n, rfl⟩ : ∃ y, n = y + 1 := ⟨n - 1, (by first | decide | omega)⟩
  unfold f_M_text_140 f_M_text_211
  rw [L_goodB hb]
  simp only [zb_s, ir0, if_true]
theorem L_1400 {Km n : Nat} {Fm : zF} {Bm : zB} (hg : Fm 14 0 17 = 0) (hn : 0 < n) : f_M_text_140 Km n 0 Fm Bm = some (0, Fm, Bm) := by
  obtain ⟨n, rfl⟩ : ∃ y, n = y + 1 := ⟨n - 1, (by first | decide | omega)⟩
  unfold f_M_text_140 f_M_text_211
  rw [L_good hg]
  simp only [zb_s, ir1, ir0, if_true, if_false, Int.reduceEq]
theorem P_vloop {K0 : zK} {Km : Nat} {N L p w : Int} {F0 : zF} {B0 : zB} {Fm0 : zF} {Bm0 : zB} : ∀ {q n m : Nat} {K : zK} {V j : Int} {F : zF} {B : zB} {Fm : zF} {Bm : zB}, V = 4 - q → q + 1 < n → q + 2 < m → VI K Km N L V j p w F B Fm Bm → VF K0 p w F0 B0 Fm0 Bm0 K F B Fm Bm → (1 ≤ V ∨ wdAt Bm j 508675318629) → zPm (f_Parser_parse_119 n K V 1 0 p F B) (f_M_text_140 Km m (if Bm 14 0 7 j = 0 then 0 else 1) Fm Bm) (fun r F' B' K' _ Fm' Bm' => TPO K0 Km N p w F0 B0 Fm0 Bm0 r F' B' K' Fm' Bm') := by
  intro q
  -- no voice here
  have out : ∀ {n m : Nat} {K : zK} {V j : Int} {F : zF} {B : zB} {Fm : zF} {Bm : zB}, 0 < n → 1 < m → VI K Km N L V j p w F B Fm Bm → VF K0 p w F0 B0 Fm0 Bm0 K F B Fm Bm → 1 ≤ V → (4 ≤ V ∨ wdm Bm j 508675318629 = 0) → zPm (f_Parser_parse_119 n K V 1 0 p F B) (f_M_text_140 Km m (if Bm 14 0 7 j = 0 then 0 else 1) Fm Bm) (fun r F' B' K' _ Fm' Bm' => TPO K0 Km N p w F0 B0 Fm0 Bm0 r F' B' K' Fm' Bm') := by
    intro n m K V j F B Fm Bm hn hm hI hVF hV1 hno
    have hI0 := hI
    obtain ⟨⟨hE, hS, hP, hLT, hit, hi0, hdep, hSL⟩, hGS, f1, fm1, hV3, hVv⟩ := hI
    have hX := PS_CX hE hS
    have hM := PS_MX hE hS
    have k3 := hE.2.2.2.1
    have k10 := hE.2.2.2.2.1
    have jj := hS.2.1.1
    have tk := hE.1.2.2 j jj.1 jj.2
    have ek := hS.2.1.2.1
    have wr0 := wdm_r Bm j 508675318629
    obtain ⟨n, rfl⟩ : ∃ y, n = y + 1 := ⟨n - 1, (by first | decide | omega)⟩
    obtain ⟨m, rfl⟩ : ∃ y, m = y + 1 := ⟨m - 1, (by first | decide | omega)⟩
    have wv := PS_wn (c := 508675318629) hE hS (by decide)
    have cls : f_Parser_parse_119 (n + 1) K V 1 0 p F B = f_Parser_parse_154 K 1 0 F B := by
      rw [f_Parser_parse_119]
      rw [if_pos (show r32 V by omega)]
      by_cases a : 4 ≤ V
      · rw [if_pos a]
      · rw [if_neg a, if_pos (by decide), if_neg (by decide), if_pos ⟨Int.le_refl _, k3⟩, hS.1, if_pos ⟨Int.le_refl _, k10⟩, wv.1]
        simp only [zbN_s]
        have z : wdm Bm j 508675318629 = 0 := by rcases hno with z | z <;> omega
        rw [z, if_pos (by decide), if_pos rfl]
    rw [cls]
    unfold f_Parser_parse_154 f_Parser_parse_174
    rw [if_pos (by decide), if_neg (by decide), if_pos ⟨Int.le_refl _, k3⟩, hS.1, if_pos ⟨Int.le_refl _, k10⟩, if_pos (show r32 (F 10 0 0) by have := hX.2.2.2.1; omega), ek]
    by_cases e : Bm 14 0 7 j = 0
    · have jN : j = N := tk.2.2.2.1.mp e
      rw [if_pos e, if_pos e, if_pos ⟨Int.le_refl _, k3⟩, hS.2.2.2.2.1, L_1400 hS.2.2.2.1 (by first | decide | omega)]
      subst jN
      exact zPm_s ⟨hVF, hGS, Or.inl ⟨rfl, L, V, hV1, hI0⟩⟩
    · have er := PS_err2 hE hS
      rw [if_neg e, if_neg e, C_refuse hX]
      simp only [zbN_s]
      rw [if_pos ⟨Int.le_refl _, k3⟩]
      have vf' : VF K0 p w F0 B0 Fm0 Bm0 K (refF F 2) B (errM Fm Bm (wr Bm j)) Bm := VF_t hVF (VF_h (hF_e hF_r) (hG_e hG_r) tB_r tM_r)
      have fin : f_M_text_179 (f_M_text_140 Km m) Km Fm Bm = some (0, errM Fm Bm (wr Bm j), Bm) := by
        unfold f_M_text_179 f_M_text_183 f_M_text_206 f_M_text_207
        rw [L_wrong hS.2.2.2.1 hM]
        simp only [zb_s]
        rw [L_goodB er.2]
        simp only [zb_s, ir0, if_true]
        exact L_140B er.2 (by first | decide | omega)
      have ref : f_M_text_140 Km (m + 1) 1 Fm Bm = some (0, errM Fm Bm (wr Bm j), Bm) := by
        rw [f_M_text_140]
        rw [L_good hS.2.2.2.1]
        simp only [zb_s, ir1, i10]
        rw [wv.2]
        simp only [zb_s]
        rw [if_pos (show r32 (wdm Bm j 508675318629) by omega)]
        by_cases a : wdm Bm j 508675318629 = 0
        · rw [if_pos a]; exact fin
        · have v4 : 4 ≤ V := by rcases hno with z | z <;> omega
          rw [if_neg a, hP.2.2.1, if_pos hP.2.1, fm1, if_pos (by first | decide | omega), if_pos v4]; exact fin
      rw [ref]
      exact zPm_s ⟨vf', hGS, Or.inr ⟨er.1, er.2⟩⟩
  induction q with
  | zero =>
    intro n m K V j F B Fm Bm hV hn hm hI hVF hfirst
    exact out (by first | decide | omega) (by first | decide | omega) hI hVF (by first | decide | omega) (Or.inl (by first | decide | omega))
  | succ q ih =>
    intro n m K V j F B Fm Bm hV hn hm hI hVF hfirst
    by_cases a : wdm Bm j 508675318629 = 0
    · rcases hfirst with z | z
      · exact out (by first | decide | omega) (by first | decide | omega) hI hVF z (Or.inr a)
      · exact absurd z (wdm_0.mp a)
    · have wd := Decidable.not_not.mp (mt wdm_0.mpr a)
      have hI0 := hI
      obtain ⟨⟨hE, hS, hP, hLT, hit, hi0, hdep, hSL⟩, hGS, f1, fm1, hV3, hVv⟩ := hI
      have k3 := hE.2.2.2.1
      have k10 := hE.2.2.2.2.1
      have wr0 := wdm_r Bm j 508675318629
      have wv := PS_wn (c := 508675318629) hE hS (by decide)
      obtain ⟨n, rfl⟩ : ∃ y, n = y + 1 := ⟨n - 1, (by first | decide | omega)⟩
      obtain ⟨m, rfl⟩ : ∃ y, m = y + 1 := ⟨m - 1, (by first | decide | omega)⟩
      rw [if_neg (show ¬ Bm 14 0 7 j = 0 by have := wd.1; omega)]
      rw [f_Parser_parse_119, f_M_text_140]
      rw [if_pos (show r32 V by omega), if_neg (show ¬ 4 ≤ V by omega), if_pos (by decide), if_neg (by decide), if_pos ⟨Int.le_refl _, k3⟩, hS.1, if_pos ⟨Int.le_refl _, k10⟩, wv.1, L_good hS.2.2.2.1]
      simp only [zb_s, zbN_s, ir1, i10]
      rw [wv.2]
      simp only [zb_s]
      rw [if_pos (show r32 (wdm Bm j 508675318629) by omega), if_neg a, if_pos hP.1, if_pos (show r32 (wdm Bm j 508675318629) by omega), if_neg a, hP.2.2.1, if_pos hP.2.1, fm1, if_pos (show r32 V by omega), if_neg (show ¬ 4 ≤ V by omega)]
      refine zPm_c (P_voice hI0 wd (by first | decide | omega)) (fun r F' B' K' r' Fm' Bm' hh => ?_)
      obtain ⟨vf, gs, res⟩ := hh
      have vf' := VF_t hVF vf
      unfold f_Parser_parse_147 f_M_text_183 f_M_text_206 f_M_text_207
      rcases res with ⟨rfl, j', hj, hI'⟩ | ⟨rfl, er⟩
      · have hS' := hI'.1.2.1
        have hE' := hI'.1.1
        have hM' := PS_MX hE' hS'
        have k' := hM'.2.2.1
        have j0' := hM'.2.1
        rw [L_good hS'.2.2.2.1]
        simp only [zb_s, ir1, i10]
        rw [hM'.1, if_pos (show 0 ≤ j' ∧ j' < 3001 by omega), if_pos (show r32 (Bm' 14 0 7 j') by omega)]
        have key := ih (n := n) (m := m) (K := K') (V := V + 1) (j := j') (by first | decide | omega) (by first | decide | omega) (by first | decide | omega) hI' vf' (Or.inl (by first | decide | omega))
        by_cases e : Bm' 14 0 7 j' = 0
        · rw [if_pos e] at key ⊢; exact key
        · rw [if_neg e] at key ⊢; exact key
      · have k3' : 0 < K'.2 3 := Int.lt_of_lt_of_le k3 (vf.1.2 3)
        rw [L_goodB er.2]
        simp only [zb_s, ir0, if_true]
        rw [C_119e k3' (by first | decide | omega) (by first | decide | omega), L_140B er.2 (by first | decide | omega)]
        exact zPm_s ⟨vf', gs, Or.inr ⟨er.1, er.2⟩⟩
end
