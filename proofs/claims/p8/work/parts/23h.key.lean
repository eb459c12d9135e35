section
/-! ===== key, on both sides ===== -/
theorem PS_wn {K : zK} {Km : Nat} {N j c : Int} {F : zF} {B : zB} {Fm : zF} {Bm : zB} (hE : EV K Km N B Bm) (hS : PS N j F B Fm Bm) (hc : r64 c) : f_Tokens_isWord K 0 c F B = some (wdm Bm j c, F, B) ∧ f_M_isWord Km c Fm Bm = some (wdm Bm j c, Fm, Bm) := by
  rw [C_isWord (PS_CX hE hS) hc, L_isWord (PS_MX hE hS) hc, PS_wd hE hS]
  exact ⟨rfl, rfl⟩
theorem P_key21 {K : zK} {Km : Nat} {N j p w l : Int} {F : zF} {B : zB} {Fm : zF} {Bm : zB} (hE : EV K Km N B Bm) (hS : PS N j F B Fm Bm) (hP : HP K p w F Fm) (hl : l = 0 ∨ l = 1) : zP (f_Parser_takeKey_21 K l 0 p F B) (f_M_headKey_55 Km l Fm Bm) (fun r F' B' _ Fm' Bm' => HPO K N j p w 0 F B Fm Bm r F' B' Fm' Bm') := by
  have k3 := hE.2.2.2.1
  have k10 := hE.2.2.2.2.1
  obtain ⟨p0, w0, h6, q2, q3, q4, q5, q6, q17, q22, q23, q24⟩ := hP
  unfold f_Parser_takeKey_21 f_M_headKey_55
  rw [if_pos ⟨Int.le_refl _, k3⟩]
  rcases P_num hE hS (lo := 0) (hi := 7) (by decide) (by decide) with ⟨n1, n2, n3, c1, m1, hS1⟩ | ⟨s, s', v, c1, m1, er⟩
  · rw [c1, m1]
    simp only [zb_s, ir1, i10]
    have e19 : (advF (zup3 F 3 0 19 (Bm 14 0 9 j)) B) 3 0 19 = Bm 14 0 9 j := by rw [advF_o (by decide)]; simp [zup3_v]
    have e6 : (zup3 Fm 14 0 16 (j + 1)) 14 0 6 = w := by simp [zup3_v]; exact h6
    have main : ∀ v : Int, -7 ≤ v → v ≤ 7 → zP (f_Parser_takeKey_51 K 0 p p v (advF (zup3 F 3 0 19 (Bm 14 0 9 j)) B) B) (f_M_headKey_78 Km w v (zup3 Fm 14 0 16 (j + 1)) Bm) (fun r F' B' _ Fm' Bm' => HPO K N j p w 0 F B Fm Bm r F' B' Fm' Bm') := by
      intro v v1 v2
      have hS2 : PS N (j + 1) (zup3 (advF (zup3 F 3 0 19 (Bm 14 0 9 j)) B) 6 p 2 v) B (zup3 (zup3 Fm 14 0 16 (j + 1)) 13 w 2 v) Bm := PS_cg hS1 (fun k => by simp [zup3_v]) (fun k _ => by simp [zup3_v]) (fun k _ => by simp [zup3_v])
      have gF2 : hF p F (zup3 (advF (zup3 F 3 0 19 (Bm 14 0 9 j)) B) 6 p 2 v) := hF_6 (hF_a (hF_u hF_r (by decide))) (by decide) (by decide)
      have gG2 : hG w Fm (zup3 (zup3 Fm 14 0 16 (j + 1)) 13 w 2 v) := hG_3 (hG_u hG_r (by decide) (by decide)) (by decide) (by decide)
      have wm := PS_wn (c := 469920280434) hE hS2 (by decide)
      have r1 := wdm_r Bm (j + 1) 469920280434
      have e6' : (zup3 (zup3 Fm 14 0 16 (j + 1)) 13 w 2 v) 14 0 6 = w := by simp [zup3_v]; exact h6
      have hS3 : PS N (j + 1) (zup3 (zup3 (advF (zup3 F 3 0 19 (Bm 14 0 9 j)) B) 6 p 2 v) 6 p 3 (wdm Bm (j + 1) 469920280434)) B (zup3 (zup3 (zup3 Fm 14 0 16 (j + 1)) 13 w 2 v) 13 w 3 (wdm Bm (j + 1) 469920280434)) Bm := PS_cg hS2 (fun k => by simp [zup3_v]) (fun k _ => by simp [zup3_v]) (fun k _ => by simp [zup3_v])
      have gF3 := hF_6 (k := 3) (v := wdm Bm (j + 1) 469920280434) gF2 (by decide) (by decide)
      have gG3 := hG_3 (k := 3) (v := wdm Bm (j + 1) 469920280434) gG2 (by decide) (by decide)
      have wn := PS_wn (c := 469920280434) hE hS3 (by decide)
      have wj := PS_wn (c := 469785800562) hE hS3 (by decide)
      have r2 := wdm_r Bm (j + 1) 469785800562
      have hX3 := PS_CX hE hS3
      unfold f_Parser_takeKey_51 f_M_headKey_78 f_M_headKey_123 f_M_headKey_140
      rw [if_pos p0, if_pos ⟨Int.le_refl _, k3⟩, hS1.1, if_pos ⟨Int.le_refl _, k10⟩, wm.1, if_pos w0, L_good hS2.2.2.2.1]
      simp only [zb_s, ir1, i10]
      rw [e6', if_pos w0, wm.2]
      simp only [zb_s]
      rw [if_pos r1, wj.2]
      simp only [zb_s]
      rw [if_pos (show r32 (wdm Bm (j + 1) 469920280434) by omega), if_pos p0]
      -- the class's two branches put the same
      have key73 : (if wdm Bm (j + 1) 469920280434 = 0 then f_Parser_takeKey_73 K 0 p 0 (zup3 (advF (zup3 F 3 0 19 (Bm 14 0 9 j)) B) 6 p 2 v) B else f_Parser_takeKey_73 K 0 p 1 (zup3 (advF (zup3 F 3 0 19 (Bm 14 0 9 j)) B) 6 p 2 v) B) = f_Parser_takeKey_73 K 0 p (wdm Bm (j + 1) 469920280434) (zup3 (advF (zup3 F 3 0 19 (Bm 14 0 9 j)) B) 6 p 2 v) B := by
        rcases r1 with z | z
        · rw [if_pos z, z]
        · rw [if_neg (by first | decide | omega), z]
      rw [if_pos p0, key73]
      unfold f_Parser_takeKey_73 f_Parser_takeKey_108
      rw [if_pos p0, if_pos ⟨Int.le_refl _, k3⟩, hS2.1, if_pos ⟨Int.le_refl _, k10⟩, wn.1]
      simp only [zb_s]
      rw [if_pos (show r32 (wdm Bm (j + 1) 469920280434) by omega), if_pos (show r32 (wdm Bm (j + 1) 469785800562) by omega)]
      -- taken
      have ok : ¬ Bm 14 0 7 (j + 1) = 0 → zP (some (1, advF (zup3 (zup3 (advF (zup3 F 3 0 19 (Bm 14 0 9 j)) B) 6 p 2 v) 6 p 3 (wdm Bm (j + 1) 469920280434)) B, B)) (some (0, zup3 (zup3 (zup3 (zup3 Fm 14 0 16 (j + 1)) 13 w 2 v) 13 w 3 (wdm Bm (j + 1) 469920280434)) 14 0 16 (j + 1 + 1), Bm)) (fun r F' B' _ Fm' Bm' => HPO K N j p w 0 F B Fm Bm r F' B' Fm' Bm') := by
        intro h0
        refine zP_s ⟨rfl, rfl, hF_a gF3, hG_u gG3 (by decide) (by decide), Or.inl ⟨rfl, j + 1 + 1, (by first | decide | omega), PS_step hE hS3 h0, ?_, ?_, ?_, ?_, ?_, ?_, ?_⟩⟩
        · refine ⟨p0, w0, ?_, ?_, ?_, ?_, ?_, ?_, ?_, ?_, ?_, ?_⟩ <;> simp [zup3_v, advF_o] <;> first | assumption | omega
        · simp [zup3_v, advF_o]
        · simp [zup3_v, advF_o]
        · simp [zup3_v, advF_o]
        · simp [zup3_v, advF_o]
        · simp [zup3_v, advF_o]
        · simp [zup3_v, advF_o] <;> omega
      have e16 : (zup3 (zup3 (zup3 Fm 14 0 16 (j + 1)) 13 w 2 v) 13 w 3 (wdm Bm (j + 1) 469920280434)) 14 0 16 + 1 = j + 1 + 1 := by simp [zup3_v]
      by_cases z1 : wdm Bm (j + 1) 469920280434 = 0
      · rw [if_pos z1, hS3.1, if_pos ⟨Int.le_refl _, k10⟩, wj.1]
        simp only [zb_s]
        rw [if_pos (show r32 (wdm Bm (j + 1) 469785800562) by omega)]
        by_cases z2 : wdm Bm (j + 1) 469785800562 = 0
        · rw [if_pos z2, if_pos z2, wn.2]
          simp only [zb_s]
          rw [if_pos (show r32 (wdm Bm (j + 1) 469920280434) by omega), if_pos z1, C_refuse hX3, L_wrong hS3.2.2.2.1 (PS_MX hE hS3)]
          simp only [zb_s]
          rw [if_pos (by decide)]
          exact zP_s ⟨rfl, rfl, hF_e gF3, hG_e gG3, Or.inr ⟨rfl, PS_err2 hE hS3⟩⟩
        · have z' := Decidable.not_not.mp (mt wdm_0.mpr z2)
          rw [if_neg z2, if_neg z2, if_pos ⟨Int.le_refl _, k3⟩, hS3.1, if_pos ⟨Int.le_refl _, k10⟩, C_adv hX3, e16]
          simp only [zb_s]
          exact ok (by first | decide | omega)
      · have z' := Decidable.not_not.mp (mt wdm_0.mpr z1)
        have z2 : wdm Bm (j + 1) 469785800562 = 0 := wdm_0.mpr (fun q => by have := q.2; have := z'.2; omega)
        rw [if_neg z1, if_pos z2, wn.2, if_pos ⟨Int.le_refl _, k3⟩, hS3.1, if_pos ⟨Int.le_refl _, k10⟩, C_adv hX3]
        simp only [zb_s]
        rw [if_pos (show r32 (wdm Bm (j + 1) 469920280434) by omega), if_neg z1, e16]
        exact ok (by first | decide | omega)
    rw [e19, e6]
    rcases hl with rfl | rfl
    · rw [if_pos (show r32 0 by decide), if_pos rfl, if_pos p0, if_pos (show r32 0 by decide), if_pos rfl]
      exact main _ (by first | decide | omega) (by first | decide | omega)
    · rw [if_pos (show r32 1 by decide), if_neg (by decide), if_pos p0, if_pos (show r32 1 by decide), if_neg (by decide)]
      exact main _ (by first | decide | omega) (by first | decide | omega)
  · rw [c1, m1]
    simp only [zb_s, ir0, if_true]
    have e6 : (errM Fm Bm s') 14 0 6 = w := by unfold errM; simp [zup3_v]; exact h6
    have fin : ∀ u, f_M_headKey_78 Km w u (errM Fm Bm s') Bm = some (0, zup3 (errM Fm Bm s') 13 w 2 u, Bm) := by
      intro u
      unfold f_M_headKey_78
      rw [if_pos w0, L_goodB (bad_cg er.2 (by simp [zup3_v]))]
      simp only [zb_s, ir0, if_true]
    rw [e6, fin, fin]
    have es : ∀ u, zP (some (0, refF F s, B)) (some (0, zup3 (errM Fm Bm s') 13 w 2 u, Bm)) (fun r F' B' _ Fm' Bm' => HPO K N j p w 0 F B Fm Bm r F' B' Fm' Bm') := fun u => zP_s ⟨rfl, rfl, hF_e hF_r, hG_3 (hG_e hG_r) (by decide) (by decide), Or.inr ⟨rfl, ERR_cg er rfl (by simp [zup3_v]) (by simp [zup3_v])⟩⟩
    rcases hl with rfl | rfl
    · rw [if_pos (show r32 0 by decide), if_pos rfl]; exact es _
    · rw [if_pos (show r32 1 by decide), if_neg (by decide)]; exact es _
theorem HPO_t {K : zK} {N j j1 p w r dl : Int} {F F1 : zF} {B : zB} {Fm Fm1 : zF} {Bm : zB} {F' : zF} {B' : zB} {Fm' : zF} {Bm' : zB} (h : HPO K N j1 p w 0 F1 B Fm1 Bm r F' B' Fm' Bm') (hj : j ≤ j1) (gF : hF p F F1) (gG : hG w Fm Fm1) (e14 : F1 3 0 14 = F 3 0 14) (e16 : F1 3 0 16 = F 3 0 16) (e27 : Fm1 14 0 27 = Fm 14 0 27) (e18 : F1 3 0 18 = F 3 0 18) (e15 : F1 3 0 15 = F 3 0 15) (eS : Fm1 14 0 22 + Fm1 14 0 23 + Fm1 14 0 24 = Fm 14 0 22 + Fm 14 0 23 + Fm 14 0 24 + dl) : HPO K N j p w dl F B Fm Bm r F' B' Fm' Bm' := by
  obtain ⟨g1, g2, g3, g4, g5⟩ := h
  refine ⟨g1, g2, hF_t gF g3, hG_t gG g4, ?_⟩
  rcases g5 with ⟨r1, j', a1, a2, a3, a4, a5, a6, a7, a8, a9⟩ | er
  · exact Or.inl ⟨r1, j', (by first | decide | omega), a2, a3, (by first | decide | omega), (by first | decide | omega), (by first | decide | omega), (by first | decide | omega), (by first | decide | omega), (by first | decide | omega)⟩
  · exact Or.inr er
theorem P_key {K : zK} {Km : Nat} {N j p w : Int} {F : zF} {B : zB} {Fm : zF} {Bm : zB} (hE : EV K Km N B Bm) (hS : PS N j F B Fm Bm) (hP : HP K p w F Fm) (wd : wdAt Bm j 7038329) (h22 : Fm 14 0 22 = 0) : zP (f_Parser_takeHead K 0 p F B) (f_M_head Km Fm Bm) (fun r F' B' _ Fm' Bm' => HPO K N j p w 1 F B Fm Bm r F' B' Fm' Bm') := by
  have hX := PS_CX hE hS
  have hM := PS_MX hE hS
  have k3 := hE.2.2.2.1
  have k10 := hE.2.2.2.2.1
  have h4 := wd.1
  have ek := hS.2.1.2.1
  have tk := hE.1.2.2 j hS.2.1.1.1 hS.2.1.1.2
  have ev : F 10 0 2 = 7038329 := by rw [hS.2.1.2.2.2.1, (tk.2.2.2.2.2.2.1 h4).1]; exact wd.2
  have hs : hds (F 10 0 0) (F 10 0 2) = 1 := by rw [ek, h4, ev]; decide
  have t : ∀ c, r64 c → f_M_isWord Km c Fm Bm = some (if 7038329 = c then 1 else 0, Fm, Bm) := fun c hc => L_wd hM wd hc
  obtain ⟨p0, w0, h6, q2, q3, q4, q5, q6, q17, q22, q23, q24⟩ := hP
  have z8 := (zor8i q22 q23 q24).1 h22
  rw [← q17] at z8
  have hSu : PS N j (zup3 F 3 0 17 (zor (F 3 0 17) 1)) B (zup3 Fm 14 0 22 1) Bm := PS_cg (PS_u (k := 17) (v := zor (F 3 0 17) 1) hS (by decide)) (fun _ => rfl) (fun _ _ => rfl) (fun k hk => by rw [zup3_v, if_neg (fun z => by have := z.2.2; omega)])
  have hS1 := PS_step hE hSu (by first | decide | omega)
  have hX1 := PS_CX hE hS1
  have hM1 := PS_MX hE hS1
  have sr := sgm_r Bm (j + 1) 45
  have gF1 : hF p F (advF (zup3 F 3 0 17 (zor (F 3 0 17) 1)) B) := hF_a (hF_u hF_r (by decide))
  have gG1 : hG w Fm (zup3 (zup3 Fm 14 0 22 1) 14 0 16 (j + 1)) := hG_u (hG_u hG_r (by decide) (by decide)) (by decide) (by decide)
  have hP1 : HP K p w (advF (zup3 F 3 0 17 (zor (F 3 0 17) 1)) B) (zup3 (zup3 Fm 14 0 22 1) 14 0 16 (j + 1)) := by
    refine ⟨p0, w0, ?_, ?_, ?_, ?_, ?_, ?_, ?_, ?_, ?_, ?_⟩ <;> simp [zup3_v, advF_o] <;> first | assumption | omega
  unfold f_Parser_takeHead f_M_head f_M_headKey f_M_headKey_11 f_M_head_152 f_Parser_takeKey
  rw [if_pos ⟨(by first | decide | omega), k3⟩, C_headSort hX, hs]
  simp only [t 7038329 (by decide), zb_s, ir0, ir1, if_true, if_false, Int.reduceEq, h22, hM.1]
  rw [hX.2.2.1, if_pos ⟨(by first | decide | omega), k10⟩, C_adv (CX_u hX (by decide)), L_good hS1.2.2.2.1]
  simp only [zb_s, ir1, i10, if_true, if_false, Int.reduceEq]
  rw [if_pos ⟨Int.le_refl _, k3⟩, hS1.1, if_pos ⟨Int.le_refl _, k10⟩, C_isSign hX1 (by decide), PS_sg hE hS1, L_isSign hM1 (by decide)]
  simp only [zb_s]
  rw [if_pos (show r32 (sgm Bm (j + 1) 45) by omega), if_pos (show r32 (sgm Bm (j + 1) 45) by omega)]
  have hend : ∀ {x y : zO} {F1 : zF} {Fm1 : zF} {j1 : Int}, zP x y (fun r F' B' _ Fm' Bm' => HPO K N j1 p w 0 F1 B Fm1 Bm r F' B' Fm' Bm') → j ≤ j1 → hF p F F1 → hG w Fm Fm1 → F1 3 0 14 = F 3 0 14 → F1 3 0 16 = F 3 0 16 → Fm1 14 0 27 = Fm 14 0 27 → F1 3 0 18 = F 3 0 18 → F1 3 0 15 = F 3 0 15 → Fm1 14 0 22 + Fm1 14 0 23 + Fm1 14 0 24 = Fm 14 0 22 + Fm 14 0 23 + Fm 14 0 24 + 1 → zP (zbind x (fun r F B => if (r = 0 ∨ r = 1) then some (r, F, B) else none)) (zbind y (fun _ F B => some (0, F, B))) (fun r F' B' _ Fm' Bm' => HPO K N j p w 1 F B Fm Bm r F' B' Fm' Bm') := by
    intro x y F1 Fm1 j1 h a1 a2 a3 a4 a5 a6 a7 a8 a9
    refine zP_c h (fun r F' B' r' Fm' Bm' hh => ?_)
    have hr : r = 0 ∨ r = 1 := by
      rcases hh.2.2.2.2 with q | q
      · exact Or.inr q.1
      · exact Or.inl q.1
    rw [if_pos hr]
    exact zP_s (HPO_t hh a1 a2 a3 a4 a5 a6 a7 a8 a9)
  by_cases z : sgm Bm (j + 1) 45 = 0
  · rw [if_pos z, if_pos z, z]
    refine hend (P_key21 hE hS1 hP1 (Or.inl rfl)) (by first | decide | omega) gF1 gG1 ?_ ?_ ?_ ?_ ?_ ?_ <;> simp [zup3_v, advF_o] <;> omega
  · have z1 : sgm Bm (j + 1) 45 = 1 := by omega
    have z' := Decidable.not_not.mp (mt sgm_0.mpr z)
    have hS2 := PS_step hE hS1 (by first | decide | omega)
    have e16 : (zup3 (zup3 Fm 14 0 22 1) 14 0 16 (j + 1)) 14 0 16 + 1 = j + 1 + 1 := by simp [zup3_v]
    rw [if_neg z, if_neg z, hS1.1, if_pos ⟨Int.le_refl _, k10⟩, C_adv hX1, z1, e16]
    simp only [zb_s]
    have hP2 : HP K p w (advF (advF (zup3 F 3 0 17 (zor (F 3 0 17) 1)) B) B) (zup3 (zup3 (zup3 Fm 14 0 22 1) 14 0 16 (j + 1)) 14 0 16 (j + 1 + 1)) := by
      refine ⟨p0, w0, ?_, ?_, ?_, ?_, ?_, ?_, ?_, ?_, ?_, ?_⟩ <;> simp [zup3_v, advF_o] <;> first | assumption | omega
    refine hend (P_key21 hE hS2 hP2 (Or.inr rfl)) (by first | decide | omega) (hF_a gF1) (hG_u gG1 (by decide) (by decide)) ?_ ?_ ?_ ?_ ?_ ?_ <;> simp [zup3_v, advF_o] <;> omega
end
