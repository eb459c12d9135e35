section
/-! ===== the heads of a text, on both sides ===== -/
def bgn (F : zF) : Int := if F 10 0 0 = 4 ∧ F 10 0 2 = 7103860 then (if 6 ≤ F 3 0 16 then 0 else 1) else if hds (F 10 0 0) (F 10 0 2) = 0 then 0 else if zand (F 3 0 17) (hds (F 10 0 0) (F 10 0 2)) = 0 then 1 else 0
theorem hds_r (k v : Int) : 0 ≤ hds k v ∧ hds k v ≤ 4 := by
  unfold hds
  split
  · split
    · omega
    · split
      · omega
      · split <;> omega
  · omega
theorem C_begins {K : zK} {F : zF} {B : zB} (h : CX K F B) (hl : r32 (F 3 0 16)) : f_Parser_beginsHead K 0 F B = some (bgn F, F, B) := by
  have w1 := C_isWord (c := 7103860) h (by decide)
  have hs := C_headSort h
  have r1 := wdn_r F 7103860
  have hr := hds_r (F 10 0 0) (F 10 0 2)
  obtain ⟨k3, k10, e11, hk, hv, hx, h5, hK⟩ := h
  unfold f_Parser_beginsHead f_Parser_beginsHead_27 f_Parser_beginsHead_51 f_Parser_beginsHead_52 bgn
  rw [if_pos ⟨(by first | decide | omega), k3⟩, e11, if_pos ⟨(by first | decide | omega), k10⟩, w1]
  simp only [zb_s]
  rw [if_pos (by first | decide | omega)]
  by_cases a : F 10 0 0 = 4 ∧ F 10 0 2 = 7103860
  · rw [if_neg (by rw [wdn_0]; exact fun z => z a), if_pos hl, if_pos a]
    by_cases l : 6 ≤ F 3 0 16
    · rw [if_pos l, if_pos (by decide), if_pos l]
    · rw [if_neg l, if_pos (by decide), if_neg l]
  · rw [if_pos (wdn_0.mpr a), hs, if_neg a]
    simp only [zb_s]
    rw [if_pos (by first | decide | omega)]
    by_cases d : hds (F 10 0 0) (F 10 0 2) = 0
    · rw [if_pos d, if_pos (by decide), if_pos d]
    · rw [if_neg d, hs, if_neg d]
      simp only [zb_s]
      rw [if_pos (zand_r32 _ _)]
      by_cases t : zand (F 3 0 17) (hds (F 10 0 0) (F 10 0 2)) = 0
      · rw [if_pos t, if_pos (by decide), if_pos t]
      · rw [if_neg t, if_pos (by decide), if_neg t]
/-- a head that is told already: the reference says so -/
def TLD (w : Int) (Fm Fm' : zF) (Bm : zB) (j : Int) : Prop := hG w Fm Fm' ∧ Fm' 14 0 17 = 2 ∧ Fm' 14 0 18 = Bm 14 0 8 j
theorem TLD_b {w : Int} {Fm Fm' : zF} {Bm : zB} {j : Int} (h : TLD w Fm Fm' Bm j) : bad Fm' := ⟨by have := h.2.1; omega, by have := h.2.1; omega⟩
theorem L_told {K : zK} {Km : Nat} {N j p w c : Int} {F : zF} {B : zB} {Fm : zF} {Bm : zB} (hE : EV K Km N B Bm) (hS : PS N j F B Fm Bm) (hP : HP K p w F Fm) (wd : wdAt Bm j c) (hc : (c = 7038329 ∧ Fm 14 0 22 = 1) ∨ (c = 1953066341 ∧ Fm 14 0 23 = 1) ∨ (c = 499917877359 ∧ Fm 14 0 24 = 1) ∨ (c = 7103860 ∧ Fm 14 0 27 = 6)) : ∃ Fm', f_M_head Km Fm Bm = some (0, Fm', Bm) ∧ TLD w Fm Fm' Bm j := by
  have hM := PS_MX hE hS
  have h4 := wd.1
  have hg := hS.2.2.2.1
  have wn : wr Bm j = 2 := by unfold wr; rw [if_neg (by first | decide | omega)]
  have wrg := L_wrong (K := Km) hg hM
  rw [wn] at wrg
  obtain ⟨p0, w0, h6, _⟩ := hP
  have b2 : bad (errM Fm Bm 2) := by unfold bad errM; simp [zup3_v]
  have e6 : (errM Fm Bm 2) 14 0 6 = w := by unfold errM; simp [zup3_v]; exact h6
  have e18 : (errM Fm Bm 2) 14 0 18 = Bm 14 0 8 j := by unfold errM; simp [zup3_v]; rw [hM.1]
  have e17 : (errM Fm Bm 2) 14 0 17 = 2 := by unfold errM; simp [zup3_v]
  have t : ∀ c', r64 c' → f_M_isWord Km c' Fm Bm = some (if c = c' then 1 else 0, Fm, Bm) := fun c' hc' => L_wd hM wd hc'
  rcases hc with ⟨rfl, ht⟩ | ⟨rfl, ht⟩ | ⟨rfl, ht⟩ | ⟨rfl, ht⟩
  · refine ⟨zup3 (zup3 (errM Fm Bm 2) 14 0 22 1) 14 0 16 ((errM Fm Bm 2) 14 0 16 + 1), ?_, hG_u (hG_u (hG_e hG_r) (by decide) (by decide)) (by decide) (by decide), ?_, ?_⟩
    · unfold f_M_head f_M_headKey f_M_headKey_11 f_M_head_152
      simp only [t 7038329 (by decide), zb_s, ir0, ir1, if_true, if_false, Int.reduceEq, ht, wrg]
      rw [L_goodB (bad_cg b2 (by simp [zup3_v]))]
      simp only [zb_s, ir0, if_true]
    · simp [zup3_v]; exact e17
    · simp [zup3_v]; exact e18
  · refine ⟨zup3 (zup3 (zup3 (zup3 (errM Fm Bm 2) 14 0 23 1) 14 0 16 ((errM Fm Bm 2) 14 0 16 + 1)) 13 w 4 0) 13 w 5 0, ?_, hG_3 (hG_3 (hG_u (hG_u (hG_e hG_r) (by decide) (by decide)) (by decide) (by decide)) (by decide) (by decide)) (by decide) (by decide), ?_, ?_⟩
    · unfold f_M_head f_M_head_38 f_M_head_152
      simp only [t 7038329 (by decide), t 1953066341 (by decide), zb_s, ir0, ir1, if_true, if_false, Int.reduceEq, ht, wrg]
      rw [e6, if_pos w0, L_numberB (bad_cg b2 (by simp [zup3_v]))]
      simp only [zb_s]
      rw [L_needB (bad_cg b2 (by simp [zup3_v]))]
      simp only [zb_s]
      rw [show (zup3 (zup3 (zup3 (errM Fm Bm 2) 14 0 23 1) 14 0 16 ((errM Fm Bm 2) 14 0 16 + 1)) 13 w 4 0) 14 0 6 = w by simp [zup3_v]; exact e6, if_pos w0, L_numberB (bad_cg b2 (by simp [zup3_v]))]
      rfl
    · simp [zup3_v]; exact e17
    · simp [zup3_v]; exact e18
  · refine ⟨zup3 (zup3 (zup3 (errM Fm Bm 2) 14 0 24 1) 14 0 16 ((errM Fm Bm 2) 14 0 16 + 1)) 13 w 6 0, ?_, hG_3 (hG_u (hG_u (hG_e hG_r) (by decide) (by decide)) (by decide) (by decide)) (by decide) (by decide), ?_, ?_⟩
    · unfold f_M_head f_M_head_113 f_M_head_152
      simp only [t 7038329 (by decide), t 1953066341 (by decide), t 499917877359 (by decide), zb_s, ir0, ir1, if_true, if_false, Int.reduceEq, ht, wrg]
      rw [e6, if_pos w0, L_numberB (bad_cg b2 (by simp [zup3_v]))]
      rfl
    · simp [zup3_v]; exact e17
    · simp [zup3_v]; exact e18
  · refine ⟨errM Fm Bm 2, ?_, hG_e hG_r, e17, e18⟩
    unfold f_M_head f_M_headLet f_M_head_152
    simp only [t 7038329 (by decide), t 1953066341 (by decide), t 499917877359 (by decide), zb_s, ir0, ir1, if_true, if_false, Int.reduceEq, ht, wrg]
    rw [if_pos (show r32 6 by decide)]
    rfl
/-- the class where no voice is: it refuses -/
theorem C_93n {K : zK} {Km : Nat} {N j p : Int} {F : zF} {B : zB} {Fm : zF} {Bm : zB} (hE : EV K Km N B Bm) (hS : PS N j F B Fm Bm) (hn : wdm Bm j 508675318629 = 0) : f_Parser_parse_93 K 1 0 p F B = some ((refF F 2) 3 0 21, refF F 2, B, K) := by
  have k3 := hE.2.2.2.1
  have k10 := hE.2.2.2.2.1
  have k1 := hE.2.2.2.2.2.1
  have wv := PS_wn (c := 508675318629) hE hS (by decide)
  unfold f_Parser_parse_93 f_Parser_parse_116
  rw [if_pos (by decide), if_neg (by decide), if_pos ⟨Int.le_refl _, k3⟩, hS.1, if_pos ⟨Int.le_refl _, k10⟩, wv.1]
  simp only [zbN_s]
  rw [hn, if_pos (by decide), if_pos rfl, C_refuse (PS_CX hE hS)]
  simp only [zbN_s]
  rw [C_119e k3 (by decide) (by first | decide | omega)]
theorem C_93e {K : zK} {p : Int} {F : zF} {B : zB} (k3 : 0 < K.2 3) (k1 : 3002 ≤ K.1) : f_Parser_parse_93 K 0 0 p F B = some (F 3 0 21, F, B, K) := by
  unfold f_Parser_parse_93 f_Parser_parse_116
  rw [if_pos (by decide), if_pos rfl, C_119e k3 (by decide) (by first | decide | omega)]
theorem C_43e {K : zK} {n : Nat} {l p : Int} {F : zF} {B : zB} (k3 : 0 < K.2 3) (k1 : 3002 ≤ K.1) (hl : r32 l) (hn : 0 < n) : f_Parser_parse_43 n K l 0 0 p F B = some (F 3 0 21, F, B, K) := by
  obtain ⟨n, rfl⟩ : ∃ y, n = y + 1 := ⟨n - 1, (by first | decide | omega)⟩
  rw [f_Parser_parse_43]
  rw [if_pos hl, C_93e k3 k1]
  by_cases a : 9 ≤ l
  · rw [if_pos a]
  · rw [if_neg a, if_pos (by decide), if_pos rfl]
theorem L_84B {Km n : Nat} {Fm : zF} {Bm : zB} (hb : bad Fm) (hn : 0 < n) (hK : 3002 ≤ Km) : f_M_text_84 Km n Fm Bm = some (0, Fm, Bm) := by
  obtain ⟨n, rfl⟩ : ∃ y, n = y + 1 := ⟨n - 1, (by first | decide | omega)⟩
  unfold f_M_text_84 f_M_text_138
  rw [L_goodB hb]
  simp only [zb_s, ir0, if_true]
  exact L_140B hb (by first | decide | omega)
theorem P_hstep {K : zK} {Km : Nat} {N p w : Int} {F0 : zF} {B0 : zB} {Fm0 : zF} {Bm0 : zB} {q n m : Nat} {L l j : Int} {F : zF} {B : zB} {Fm : zF} {Bm : zB} (hl : l = 9 - q) (hn : q + 1 < n) (hm : q + 2 < m) (hI : VI K Km N L 0 j p w F B Fm Bm) (hcnt : l = L + Fm 14 0 22 + Fm 14 0 23 + Fm 14 0 24) (hVF : VF K p w F0 B0 Fm0 Bm0 K F B Fm Bm) (ih : 0 < q → ∀ {n m : Nat} {L l j : Int} {F : zF} {B : zB} {Fm : zF} {Bm : zB}, l = 9 - (q - 1 : Nat) → q < n → q + 1 < m → VI K Km N L 0 j p w F B Fm Bm → l = L + Fm 14 0 22 + Fm 14 0 23 + Fm 14 0 24 → VF K p w F0 B0 Fm0 Bm0 K F B Fm Bm → zPm (f_Parser_parse_43 n K l 1 0 p F B) (f_M_text_84 Km m Fm Bm) (fun r F' B' K' _ Fm' Bm' => TPO K Km N p w F0 B0 Fm0 Bm0 r F' B' K' Fm' Bm')) : zPm (f_Parser_parse_43 n K l 1 0 p F B) (f_M_text_84 Km m Fm Bm) (fun r F' B' K' _ Fm' Bm' => TPO K Km N p w F0 B0 Fm0 Bm0 r F' B' K' Fm' Bm') := by
  have hI0 := hI
  obtain ⟨⟨hE, hS, hP, hLT, hit, hi0, hdep, hSL⟩, hGS, f1, fm1, hV3, hVv⟩ := hI
  have hX := PS_CX hE hS
  have hM := PS_MX hE hS
  have hg := hS.2.2.2.1
  have k3 := hE.2.2.2.1
  have k10 := hE.2.2.2.2.1
  have k1 := hE.2.2.2.2.2.1
  have km := hE.2.2.2.2.2.2
  have jj := hS.2.1.1
  have ek := hS.2.1.2.1
  have l1 := hLT.1
  have l2 := hLT.2.1
  have l3 := hLT.2.2.1
  obtain ⟨p0, w0, h6, q2, q3, q4, q5, q6, q17, q22, q23, q24⟩ := hP
  have hP0 : HP K p w F Fm := ⟨p0, w0, h6, q2, q3, q4, q5, q6, q17, q22, q23, q24⟩
  have z8 := zor8i q22 q23 q24
  rw [← q17] at z8
  have b22 : 0 ≤ Fm 14 0 22 ∧ Fm 14 0 22 ≤ 1 := by rcases q22 with t | t <;> rw [t] <;> decide
  have b23 : 0 ≤ Fm 14 0 23 ∧ Fm 14 0 23 ≤ 1 := by rcases q23 with t | t <;> rw [t] <;> decide
  have b24 : 0 ≤ Fm 14 0 24 ∧ Fm 14 0 24 ≤ 1 := by rcases q24 with t | t <;> rw [t] <;> decide
  have u22 := fun _ : Unit => q22
  have u23 := fun _ : Unit => q23
  have u24 := fun _ : Unit => q24
  clear q22 q23 q24
  have hl0 : 0 ≤ l := by omega
  obtain ⟨n, rfl⟩ : ∃ y, n = y + 1 := ⟨n - 1, (by first | decide | omega)⟩
  obtain ⟨m, rfl⟩ : ∃ y, m = y + 1 := ⟨m - 1, (by first | decide | omega)⟩
  have cb := C_begins hX (by first | decide | omega)
  have cstep : ∀ {u}, bgn F = u → f_Parser_parse_43 (n + 1) K l 1 0 p F B = if 9 ≤ l then f_Parser_parse_93 K 1 0 p F B else if u = 0 then f_Parser_parse_93 K 1 0 p F B else zbindN (f_Tokens_isWord K 0 7103860 F B) (fun r19 F19 B19 => if r32 r19 then (if r19 = 0 then zbindN (f_Parser_takeHead K 0 p F19 B19) (fun r22 F22 B22 => f_Parser_parse_43 n K (l + 1) r22 0 p F22 B22) else zbindN (f_Parser_takeLet K 0 F19 B19) (fun r23 F23 B23 => f_Parser_parse_43 n K (l + 1) r23 0 p F23 B23)) else none) := by
    intro u hu
    have ub : u = 0 ∨ u = 1 := by
      rw [← hu]
      unfold bgn
      split
      · split <;> omega
      · split
        · omega
        · split <;> omega
    rw [f_Parser_parse_43]
    unfold f_Parser_parse_86
    rw [if_pos (by first | decide | omega)]
    by_cases a : 9 ≤ l
    · rw [if_pos a, if_pos a]
    · rw [if_neg a, if_neg a, if_pos (by decide), if_neg (by decide), if_pos ⟨Int.le_refl _, k3⟩, cb, hu]
      simp only [zbN_s]
      rcases ub with rfl | rfl
      · rw [if_pos (by decide), if_pos rfl, if_pos rfl]
      · rw [if_pos (show r32 1 by decide), if_neg (show ¬ (1 : Int) = 0 by decide), hS.1, if_pos ⟨Int.le_refl _, k10⟩, if_neg (show ¬ (1 : Int) = 0 by decide)]
  -- a head word that may not come here
  have refuse : ∀ {c}, wdAt Bm j c → ((c = 7038329 ∧ Fm 14 0 22 = 1) ∨ (c = 1953066341 ∧ Fm 14 0 23 = 1) ∨ (c = 499917877359 ∧ Fm 14 0 24 = 1) ∨ (c = 7103860 ∧ Fm 14 0 27 = 6)) → bgn F = 0 → zPm (f_Parser_parse_43 (n + 1) K l 1 0 p F B) (f_M_text_131 (f_M_text_84 Km m) Km Fm Bm) (fun r F' B' K' _ Fm' Bm' => TPO K Km N p w F0 B0 Fm0 Bm0 r F' B' K' Fm' Bm') := by
    intro c wd hc hb
    have wn : wdm Bm j 508675318629 = 0 := wdm_0.mpr (fun z => by have := z.2; have := wd.2; omega)
    obtain ⟨Fm', e1, e2⟩ := L_told hE hS hP0 wd hc
    have r21 : (refF F 2) 3 0 21 = 2 + 16 * Bm 14 0 8 j := by
      unfold refF
      rw [zup3_v, if_pos ⟨rfl, rfl, rfl⟩, ek, if_neg (by have := wd.1; omega), hS.2.1.2.2.1]
    rw [cstep hb]
    have cl : (if 9 ≤ l then f_Parser_parse_93 K 1 0 p F B else if (0 : Int) = 0 then f_Parser_parse_93 K 1 0 p F B else zbindN (f_Tokens_isWord K 0 7103860 F B) (fun r19 F19 B19 => if r32 r19 then (if r19 = 0 then zbindN (f_Parser_takeHead K 0 p F19 B19) (fun r22 F22 B22 => f_Parser_parse_43 n K (l + 1) r22 0 p F22 B22) else zbindN (f_Parser_takeLet K 0 F19 B19) (fun r23 F23 B23 => f_Parser_parse_43 n K (l + 1) r23 0 p F23 B23)) else none)) = f_Parser_parse_93 K 1 0 p F B := by
      by_cases a : 9 ≤ l
      · rw [if_pos a]
      · rw [if_neg a, if_pos rfl]
    rw [cl, C_93n hE hS wn]
    unfold f_M_text_131
    rw [e1]
    simp only [zb_s]
    rw [L_84B (TLD_b e2) (by first | decide | omega) km]
    refine zPm_s ⟨VF_t hVF (VF_h (hF_e hF_r) e2.1 tB_r tM_r), hGS, Or.inr ⟨?_, TLD_b e2⟩⟩
    rw [r21, e2.2.1, e2.2.2]
    exact ⟨rfl, (hE.1.2.2 j hS.2.1.1.1 hS.2.1.1.2).2.2.2.2.2.2.2.2.2.1⟩
  -- a head that is taken
  have take : ∀ {c}, wdAt Bm j c → (c = 7038329 ∨ c = 1953066341 ∨ c = 499917877359) → bgn F = 1 → l < 9 → zP (f_Parser_takeHead K 0 p F B) (f_M_head Km Fm Bm) (fun r F' B' _ Fm' Bm' => HPO K N j p w 1 F B Fm Bm r F' B' Fm' Bm') → zPm (f_Parser_parse_43 (n + 1) K l 1 0 p F B) (f_M_text_131 (f_M_text_84 Km m) Km Fm Bm) (fun r F' B' K' _ Fm' Bm' => TPO K Km N p w F0 B0 Fm0 Bm0 r F' B' K' Fm' Bm') := by
    intro c wd hc hb hl9 hh
    have wl : f_Tokens_isWord K 0 7103860 F B = some (0, F, B) := by
      rw [C_isWord hX (by decide), PS_wd hE hS, show wdm Bm j 7103860 = 0 from wdm_0.mpr (fun z => by have := z.2; have := wd.2; omega)]
    rw [cstep hb, if_neg (by first | decide | omega), if_neg (by decide), wl]
    simp only [zbN_s, ir0, if_true]
    rw [if_pos (by decide)]
    unfold f_M_text_131
    refine zPm_n hh (fun r F' B' r' Fm' Bm' hr => ?_)
    obtain ⟨g1, g2, g3, g4, g5⟩ := hr
    subst g1
    subst g2
    have vf' : VF K p w F0 B0 Fm0 Bm0 K F' B' Fm' Bm' := VF_t hVF (VF_h g3 g4 tB_r tM_r)
    rcases g5 with ⟨rfl, j', a1, a2, a3, a4, a5, a6, a7, a8, a9⟩ | ⟨rfl, er⟩
    · refine ih (by first | decide | omega) (L := L) (l := l + 1) (j := j') (by first | decide | omega) (by first | decide | omega) (by first | decide | omega) ⟨⟨hE, a2, a3, ⟨(by first | decide | omega), (by first | decide | omega), l3, fun y y0 y1 => hLT.2.2.2 y y0 y1⟩, (by first | decide | omega), (by first | decide | omega), (by first | decide | omega), ?_⟩, hGS, ?_, ?_, (by first | decide | omega), fun v v0 v1 => (by first | decide | omega)⟩ (by first | decide | omega) vf'
      · rw [a4, a8]
        exact SLT_t hSL agB_r agM_r (fun _ _ _ => rfl) (Int.le_refl _) (Int.le_refl _) (by first | decide | omega)
      · rw [g3 6 p 1 (fun z => absurd z.1 (by decide)) (fun z => absurd z.1 (by decide)) (fun z => absurd z.2.2.1 (by decide))]; exact f1
      · rw [g4 13 w 1 (fun z => absurd z.1 (by decide)) (fun z => absurd z.2.2.1 (by decide))]; exact fm1
    · rw [C_43e k3 k1 (by first | decide | omega) (by first | decide | omega), L_84B er.2 (by first | decide | omega) km]
      exact zPm_s ⟨vf', hGS, Or.inr ⟨er.1, er.2⟩⟩
  rw [f_M_text_84]
  rw [L_good hg]
  simp only [zb_s, ir1, i10]
  have tw : ∀ c, r64 c → f_M_isWord Km c Fm Bm = some (wdm Bm j c, Fm, Bm) := fun c hc => L_isWord hM hc
  have wr1 : ∀ c, r32 (wdm Bm j c) := fun c => by have := wdm_r Bm j c; omega
  simp only [tw 7038329 (by decide), tw 1953066341 (by decide), tw 499917877359 (by decide), tw 7103860 (by decide), zb_s]
  rw [if_pos (wr1 _)]
  have vk : Bm 14 0 7 j = 4 → F 10 0 2 = Bm 14 0 11 j := fun k4 => by rw [hS.2.1.2.2.2.1]; exact ((hE.1.2.2 j jj.1 jj.2).2.2.2.2.2.2.1 k4).1
  by_cases c1 : wdm Bm j 7038329 = 0
  · rw [if_pos c1, if_pos (wr1 _)]
    by_cases c2 : wdm Bm j 1953066341 = 0
    · rw [if_pos c2, if_pos (wr1 _)]
      by_cases c3 : wdm Bm j 499917877359 = 0
      · rw [if_pos c3, if_pos (wr1 _)]
        by_cases c4 : wdm Bm j 7103860 = 0
        · -- no head here
          rw [if_pos c4]
          have nb : bgn F = 0 := by
            unfold bgn
            rw [ek]
            by_cases k4 : Bm 14 0 7 j = 4
            · rw [vk k4]
              rw [if_neg (wdm_0.mp c4)]
              have hz : hds (Bm 14 0 7 j) (Bm 14 0 11 j) = 0 := by
                unfold hds
                rw [if_pos k4, if_neg (fun z => wdm_0.mp c1 ⟨k4, z⟩), if_neg (fun z => wdm_0.mp c2 ⟨k4, z⟩), if_neg (fun z => wdm_0.mp c3 ⟨k4, z⟩)]
              rw [if_pos hz]
            · rw [if_neg (fun z => k4 z.1), if_pos (by unfold hds; rw [if_neg k4])]
          have cl : f_Parser_parse_43 (n + 1) K l 1 0 p F B = f_Parser_parse_93 K 1 0 p F B := by
            rw [cstep nb]
            by_cases a : 9 ≤ l
            · rw [if_pos a]
            · rw [if_neg a, if_pos rfl]
          rw [cl]
          unfold f_M_text_138
          by_cases v : wdm Bm j 508675318629 = 0
          · have er := PS_err2 hE hS
            have ref : f_M_text_140 Km Km 1 Fm Bm = some (0, errM Fm Bm (wr Bm j), Bm) := by
              obtain ⟨kk, hkk⟩ : ∃ y, Km = y + 1 + 1 := ⟨Km - 2, (by first | decide | omega)⟩
              have fin : f_M_text_179 (f_M_text_140 Km (kk + 1)) Km Fm Bm = some (0, errM Fm Bm (wr Bm j), Bm) := by
                unfold f_M_text_179 f_M_text_183 f_M_text_206 f_M_text_207
                rw [L_wrong hg hM]
                simp only [zb_s]
                rw [L_goodB er.2]
                simp only [zb_s, ir0, if_true]
                exact L_140B er.2 (by first | decide | omega)
              rw [show f_M_text_140 Km Km 1 Fm Bm = f_M_text_140 Km (kk + 1 + 1) 1 Fm Bm by rw [← hkk]]
              rw [f_M_text_140]
              rw [L_good hg]
              simp only [zb_s, ir1, i10]
              rw [tw 508675318629 (by decide)]
              simp only [zb_s]
              rw [if_pos (wr1 _), if_pos v]; exact fin
            rw [C_93n hE hS v, ref]
            exact zPm_s ⟨VF_t hVF (VF_h (hF_e hF_r) (hG_e hG_r) tB_r tM_r), hGS, Or.inr ⟨er.1, er.2⟩⟩
          · have wd := Decidable.not_not.mp (mt wdm_0.mpr v)
            have wv := PS_wn (c := 508675318629) hE hS (by decide)
            unfold f_Parser_parse_93 f_Parser_parse_116
            rw [if_pos (by decide), if_neg (by decide), if_pos ⟨Int.le_refl _, k3⟩, hS.1, if_pos ⟨Int.le_refl _, k10⟩, wv.1]
            simp only [zbN_s]
            rw [if_pos (wr1 _), if_neg v]
            have key := P_vloop (K0 := K) (q := 4) (n := K.1) (m := Km) (V := 0) (j := j) (by first | decide | omega) (by first | decide | omega) (by first | decide | omega) hI0 hVF (Or.inr wd)
            rw [if_neg (show ¬ Bm 14 0 7 j = 0 by have := wd.1; omega)] at key
            exact key
        · have wd := Decidable.not_not.mp (mt wdm_0.mpr c4)
          rw [if_neg c4]
          have bg : bgn F = if 6 ≤ F 3 0 16 then 0 else 1 := by
            unfold bgn
            rw [if_pos ⟨ek.trans wd.1, (vk wd.1).trans wd.2⟩]
          by_cases L6 : L = 6
          · rw [if_pos (by first | decide | omega)] at bg
            exact refuse wd (Or.inr (Or.inr (Or.inr ⟨rfl, (by first | decide | omega)⟩))) bg
          · rw [if_neg (by first | decide | omega)] at bg
            have wl : f_Tokens_isWord K 0 7103860 F B = some (1, F, B) := by
              rw [C_isWord hX (by decide), PS_wd hE hS]
              have := wdm_r Bm j 7103860
              rw [show wdm Bm j 7103860 = 1 by omega]
            have hd3 : f_M_head Km Fm Bm = zbind (f_M_headLet Km Fm Bm) (fun _ F10 B10 => some (0, F10, B10)) := by
              unfold f_M_head f_M_head_152
              simp only [tw 7038329 (by decide), tw 1953066341 (by decide), tw 499917877359 (by decide), zb_s, c1, c2, c3, ir0, if_true]
            rw [cstep bg, if_neg (by first | decide | omega), if_neg (by decide), wl]
            simp only [zbN_s, ir1, i10]
            rw [if_pos (by decide), if_neg (by decide)]
            unfold f_M_text_131
            rw [hd3, zb_a]
            simp only [zb_s]
            refine zPm_n (P_let hI0.1 wd (by first | decide | omega)) (fun r F' B' r' Fm' Bm' hr => ?_)
            obtain ⟨g1, g2, g3, g4, g5⟩ := hr
            have vf' : VF K p w F0 B0 Fm0 Bm0 K F' B' Fm' Bm' := VF_t hVF (VF_h g1 g2 g3 g4)
            rcases g5 with ⟨rfl, ⟨j', hj', hH'⟩, fl⟩ | ⟨rfl, er⟩
            · have hp' := hH'.2.2.1
              refine ih (by first | decide | omega) (L := L + 1) (l := l + 1) (j := j') (by first | decide | omega) (by first | decide | omega) (by first | decide | omega) ⟨hH', GS_t hGS g3, ?_, ?_, (by first | decide | omega), fun v v0 v1 => (by first | decide | omega)⟩ (by first | decide | omega) vf'
              · rw [g1 6 p 1 (fun z => absurd z.1 (by decide)) (fun z => absurd z.1 (by decide)) (fun z => absurd z.2.2.1 (by decide))]; exact f1
              · rw [g2 13 w 1 (fun z => absurd z.1 (by decide)) (fun z => absurd z.2.2.1 (by decide))]; exact fm1
            · rw [C_43e k3 k1 (by first | decide | omega) (by first | decide | omega), L_84B er.2 (by first | decide | omega) km]
              exact zPm_s ⟨vf', GS_t hGS g3, Or.inr ⟨er.1, er.2⟩⟩
      · have wd := Decidable.not_not.mp (mt wdm_0.mpr c3)
        rw [if_neg c3]
        have hz : hds (F 10 0 0) (F 10 0 2) = 4 := by rw [ek, vk wd.1, wd.1, wd.2]; decide
        have bg : bgn F = if 4 * Fm 14 0 24 = 0 then 1 else 0 := by
          unfold bgn
          rw [if_neg (fun z => by have := z.2; rw [vk wd.1, wd.2] at this; omega), hz, if_neg (by decide), z8.2.2.2.2.2]
        rcases u24 () with t | t
        · rw [if_pos (by first | decide | omega)] at bg
          exact take wd (Or.inr (Or.inr rfl)) bg (by first | decide | omega) (P_tempo hE hS hP0 wd t)
        · rw [if_neg (by first | decide | omega)] at bg
          exact refuse wd (Or.inr (Or.inr (Or.inl ⟨rfl, t⟩))) bg
    · have wd := Decidable.not_not.mp (mt wdm_0.mpr c2)
      rw [if_neg c2]
      have hz : hds (F 10 0 0) (F 10 0 2) = 2 := by rw [ek, vk wd.1, wd.1, wd.2]; decide
      have bg : bgn F = if 2 * Fm 14 0 23 = 0 then 1 else 0 := by
        unfold bgn
        rw [if_neg (fun z => by have := z.2; rw [vk wd.1, wd.2] at this; omega), hz, if_neg (by decide), z8.2.2.2.2.1]
      rcases u23 () with t | t
      · rw [if_pos (by first | decide | omega)] at bg
        exact take wd (Or.inr (Or.inl rfl)) bg (by first | decide | omega) (P_time hE hS hP0 wd t)
      · rw [if_neg (by first | decide | omega)] at bg
        exact refuse wd (Or.inr (Or.inl ⟨rfl, t⟩)) bg
  · have wd := Decidable.not_not.mp (mt wdm_0.mpr c1)
    rw [if_neg c1]
    have hz : hds (F 10 0 0) (F 10 0 2) = 1 := by rw [ek, vk wd.1, wd.1, wd.2]; decide
    have bg : bgn F = if Fm 14 0 22 = 0 then 1 else 0 := by
      unfold bgn
      rw [if_neg (fun z => by have := z.2; rw [vk wd.1, wd.2] at this; omega), hz, if_neg (by decide), z8.2.2.2.1]
    rcases u22 () with t | t
    · rw [if_pos t] at bg
      exact take wd (Or.inl rfl) bg (by first | decide | omega) (P_key hE hS hP0 wd t)
    · rw [if_neg (by first | decide | omega)] at bg
      exact refuse wd (Or.inl ⟨rfl, t⟩) bg
theorem P_hloop {K : zK} {Km : Nat} {N p w : Int} {F0 : zF} {B0 : zB} {Fm0 : zF} {Bm0 : zB} : ∀ {q n m : Nat} {L l j : Int} {F : zF} {B : zB} {Fm : zF} {Bm : zB}, l = 9 - q → q + 1 < n → q + 2 < m → VI K Km N L 0 j p w F B Fm Bm → l = L + Fm 14 0 22 + Fm 14 0 23 + Fm 14 0 24 → VF K p w F0 B0 Fm0 Bm0 K F B Fm Bm → zPm (f_Parser_parse_43 n K l 1 0 p F B) (f_M_text_84 Km m Fm Bm) (fun r F' B' K' _ Fm' Bm' => TPO K Km N p w F0 B0 Fm0 Bm0 r F' B' K' Fm' Bm') := by
  intro q
  induction q with
  | zero =>
    intro n m L l j F B Fm Bm hl hn hm hI hcnt hVF
    exact P_hstep (q := 0) (l := l) (by first | decide | omega) (by first | decide | omega) (by first | decide | omega) hI hcnt hVF (fun h => absurd h (by first | decide | omega))
  | succ q ih =>
    intro n m L l j F B Fm Bm hl hn hm hI hcnt hVF
    exact P_hstep (q := q + 1) (l := l) (by first | decide | omega) (by first | decide | omega) (by first | decide | omega) hI hcnt hVF (fun _ {n m L l j F B Fm Bm} a b c d e f => ih (by first | decide | omega) (by first | decide | omega) (by first | decide | omega) d e f)
end
