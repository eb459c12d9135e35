section
/-! ===== lengths, on both sides ===== -/
/-- nothing of the fault changes, and the frames stand -/
def OKL (N j : Int) (F : zF) (B : zB) (Fm : zF) (Bm : zB) (fr : Int) (F' : zF) (B' : zB) (Fm' : zF) (Bm' : zB) : Prop := ∃ j', j ≤ j' ∧ PS N j' F' B' Fm' Bm' ∧ Bm' 14 0 32 fr = Fm' 14 0 20 ∧ Bm' 14 0 33 fr = Fm' 14 0 21 ∧ F' 3 0 14 = F 3 0 14 ∧ F' 3 0 15 = F 3 0 15 ∧ F' 3 0 18 = F 3 0 18
theorem PS_len {N j n p v : Int} {F : zF} {B : zB} {Fm : zF} {Bm : zB} (h : PS N j F B Fm Bm) (hv : v = lenV n p) (hn : pw2 n) (hp : 0 ≤ p ∧ p ≤ 2) : PS N j (zup3 F 3 0 20 v) B (zup3 (zup3 Fm 14 0 20 n) 14 0 21 p) Bm := by
  obtain ⟨e11, hc, ht, hf, hw, hd', hl, hq⟩ := h
  unfold PS CUR at *
  simp only [zup3_v]
  simp
  exact ⟨e11, hc, ht, hf, hw, hd', Or.inr ⟨hv, hn, hp⟩, hq⟩
def fL (fr : Int) (B B' : zB) : Prop := ∀ c i k x, ¬ (c = 14 ∧ i = 0 ∧ (k = 32 ∨ k = 33) ∧ x = fr) → B' c i k x = B c i k x
theorem fL_H {fr : Int} {B B' : zB} (h : fL fr B B') : fH fr B B' := fun c i k x a => h c i k x (fun z => a ⟨z.1, z.2.1, by have := z.2.2.1; omega, by have := z.2.2.1; omega, by have := z.2.2.2; omega⟩)
theorem fL_34 {fr : Int} {B B' : zB} (h : fL fr B B') (k : Nat) (hk : k ≠ 32) (hk' : k ≠ 33) : B' 14 0 k = B 14 0 k := by
  funext x; exact h 14 0 k x (fun z => by have := z.2.2.1; omega)
theorem fL_l {fr : Int} {Bm : zB} {a b : Int} : fL fr Bm (zup4 (zup4 Bm 14 0 32 fr a) 14 0 33 fr b) := fun c i k x n => by
  rw [zup4_v, if_neg (fun z => n ⟨z.1, z.2.1, Or.inr z.2.2.1, z.2.2.2⟩), zup4_v, if_neg (fun z => n ⟨z.1, z.2.1, Or.inl z.2.2.1, z.2.2.2⟩)]
theorem fH_l {fr : Int} {Bm : zB} {a b : Int} : fH fr Bm (zup4 (zup4 Bm 14 0 32 fr a) 14 0 33 fr b) := fH_u (fH_u fH_r (by decide) (by decide) (Int.le_refl _)) (by decide) (by decide) (Int.le_refl _)
theorem L_len84 {Km : Nat} {fr : Int} {Fm : zF} {Bm : zB} (hf : 0 ≤ fr ∧ fr ≤ 3000) : f_M_length_84 Km fr Fm Bm = some (0, Fm, zup4 (zup4 Bm 14 0 32 fr (Fm 14 0 20)) 14 0 33 fr (Fm 14 0 21)) := by
  unfold f_M_length_84
  rw [if_pos (by first | decide | omega)]
theorem L_lengthB {Km : Nat} {fr : Int} {Fm : zF} {Bm : zB} (hf : 0 ≤ fr ∧ fr ≤ 3000) (h : bad Fm) : f_M_length Km fr Fm Bm = some (0, Fm, zup4 (zup4 Bm 14 0 32 fr (Fm 14 0 20)) 14 0 33 fr (Fm 14 0 21)) := by
  unfold f_M_length
  rw [L_goodB h]
  simp only [zb_s]
  rw [if_pos (by decide), if_pos (by decide), L_len84 hf]
theorem L_length0 {Km : Nat} {fr j : Int} {Fm : zF} {Bm : zB} (hf : 0 ≤ fr ∧ fr ≤ 3000) (h : Fm 14 0 17 = 0) (hm : MX Fm Bm j) (hs : sgm Bm j 58 = 0) : f_M_length Km fr Fm Bm = some (0, Fm, zup4 (zup4 Bm 14 0 32 fr (Fm 14 0 20)) 14 0 33 fr (Fm 14 0 21)) := by
  unfold f_M_length
  rw [L_good h]
  simp only [zb_s]
  rw [if_pos (by decide), if_neg (by decide), L_isSign hm (by decide)]
  simp only [zb_s]
  rw [hs, if_pos (by decide), if_pos rfl, L_len84 hf]
theorem P_points {K : zK} {Km : Nat} {N n v fr : Int} (hf : 0 ≤ fr ∧ fr ≤ 3000) (hn : pw2 n) (hv : v = zdv 128 n) : ∀ {q : Nat} {m m' : Nat} {p j : Int} {F : zF} {B : zB} {Fm : zF} {Bm : zB}, p = 2 - q → 0 ≤ p → q < m → q < m' → EV K Km N B Bm → PS N j F B Fm Bm → zP (f_Parser_takeLength_37 K m p p v 0 F B) (f_M_length_37 Km m' p n fr Fm Bm) (fun r F' B' _ Fm' Bm' => r = 1 ∧ B' = B ∧ fF F F' ∧ fG Fm Fm' ∧ fL fr Bm Bm' ∧ OKL N j F B Fm Bm fr F' B' Fm' Bm') := by
  intro q
  have l4 : ztl 4 = 3 := by decide
  -- the end, on both sides
  have fin : ∀ {p j : Int} {F : zF} {B : zB} {Fm : zF} {Bm : zB}, 0 ≤ p → p ≤ 2 → EV K Km N B Bm → PS N j F B Fm Bm → zP (f_Parser_takeLength_70 K p v 0 F B) (f_M_length_74 Km p n fr Fm Bm) (fun r F' B' _ Fm' Bm' => r = 1 ∧ B' = B ∧ fF F F' ∧ fG Fm Fm' ∧ fL fr Bm Bm' ∧ OKL N j F B Fm Bm fr F' B' Fm' Bm') := by
    intro p j F B Fm Bm p0 p2 hE hS
    unfold f_Parser_takeLength_70 f_M_length_74
    rw [if_pos (by first | decide | omega), if_pos ⟨(by first | decide | omega), hE.2.2.2.1⟩, L_len84 hf]
    refine zP_s ⟨rfl, rfl, fF_u fF_r (by decide), fG_u (fG_u fG_r (by decide) (by decide)) (by decide) (by decide), fL_l, j, Int.le_refl _, ?_, ?_, ?_, ?_, ?_, ?_⟩
    · exact PS_f (lo := 0) (pl := 0) (PS_len hS (by rw [hv]; rfl) hn ⟨p0, p2⟩) fB_r fH_l
    · simp [zup4_v]
    · simp [zup4_v]
    · simp [zup3_v]
    · simp [zup3_v]
    · simp [zup3_v]
  induction q with
  | zero =>
    intro m m' p j F B Fm Bm hp p0 hm hm' hE hS
    obtain ⟨m, rfl⟩ : ∃ x, m = x + 1 := ⟨m - 1, (by first | decide | omega)⟩
    obtain ⟨m', rfl⟩ : ∃ x, m' = x + 1 := ⟨m' - 1, (by first | decide | omega)⟩
    have hg := hS.2.2.2.1
    unfold f_Parser_takeLength_37 f_M_length_37
    rw [if_pos (by first | decide | omega), if_pos (by first | decide | omega), L_good hg]
    simp only [zb_s]
    rw [if_pos (by decide), if_neg (by decide), if_pos (by first | decide | omega), if_pos (by first | decide | omega)]
    exact fin p0 (by first | decide | omega) hE hS
  | succ q ih =>
    intro m m' p j F B Fm Bm hp p0 hm hm' hE hS
    obtain ⟨m, rfl⟩ : ∃ x, m = x + 1 := ⟨m - 1, (by first | decide | omega)⟩
    obtain ⟨m', rfl⟩ : ∃ x, m' = x + 1 := ⟨m' - 1, (by first | decide | omega)⟩
    have hg := hS.2.2.2.1
    have hX := PS_CX hE hS
    have hM := PS_MX hE hS
    have e11 := hS.1
    have k3 := hE.2.2.2.1
    have k10 := hE.2.2.2.2.1
    unfold f_Parser_takeLength_37 f_M_length_37
    rw [if_pos (by first | decide | omega), if_neg (by first | decide | omega), if_pos ⟨(by first | decide | omega), k3⟩, e11, if_pos ⟨(by first | decide | omega), k10⟩, C_isSign hX (by decide), L_good hg, PS_sg hE hS]
    simp only [zb_s]
    rw [if_pos (show r32 1 by decide), if_neg (show ¬ (1 : Int) = 0 by decide), if_pos (show r32 p by omega), if_neg (show ¬ 2 ≤ p by omega), L_isSign hM (by decide)]
    simp only [zb_s]
    have s := sgm_r Bm j 46
    rw [if_pos (show r32 (sgm Bm j 46) by omega), if_pos (show r32 (sgm Bm j 46) by omega)]
    by_cases z : sgm Bm j 46 = 0
    · rw [if_pos z, if_pos z]
      exact fin p0 (by first | decide | omega) hE hS
    · have hj : ¬ Bm 14 0 7 j = 0 := by
        have := mt sgm_0.mpr z
        omega
      rw [if_neg z, if_neg z, e11, if_pos ⟨(by first | decide | omega), k10⟩, C_adv hX, hM.1]
      simp only [zb_s]
      refine zP_m (ih (p := p + 1) (j := j + 1) (by first | decide | omega) (by first | decide | omega) (by first | decide | omega) (by first | decide | omega) hE (PS_step hE hS hj)) (fun r F' B' r' Fm' Bm' hh => ?_)
      obtain ⟨h1, h2, h3, h4, h5, j', h6, h7, h8, h9, h10, h11, h12⟩ := hh
      refine ⟨h1, h2, fF_t (fF_a fF_r) h3, fG_t (fG_u fG_r (by decide) (by decide)) h4, h5, j', (by first | decide | omega), h7, h8, h9, ?_, ?_, ?_⟩
      · rw [h10, advF_o (by decide)]
      · rw [h11, advF_o (by decide)]
      · rw [h12, advF_o (by decide)]
theorem P_takeLength {K : zK} {Km : Nat} {N j fr : Int} {F : zF} {B : zB} {Fm : zF} {Bm : zB} (hf : 0 ≤ fr ∧ fr ≤ 3000) (hE : EV K Km N B Bm) (hS : PS N j F B Fm Bm) (hs : ¬ sgm Bm j 58 = 0) : zP (f_Parser_takeLength K 0 F B) (f_M_length Km fr Fm Bm) (fun r F' B' _ Fm' Bm' => B' = B ∧ fF F F' ∧ fG Fm Fm' ∧ fL fr Bm Bm' ∧ (r = 1 ∧ OKL N j F B Fm Bm fr F' B' Fm' Bm' ∨ r = 0 ∧ ERR F' Fm')) := by
  have hg := hS.2.2.2.1
  have hX := PS_CX hE hS
  have hM := PS_MX hE hS
  have e11 := hS.1
  have k3 := hE.2.2.2.1
  have k10 := hE.2.2.2.2.1
  have k1 := hE.2.2.2.2.2.1
  have km := hE.2.2.2.2.2.2
  have s := sgm_r Bm j 58
  have hj : ¬ Bm 14 0 7 j = 0 := by
    have := mt sgm_0.mpr hs
    omega
  have hS1 := PS_step hE hS hj
  have hX1 := PS_CX hE hS1
  have hM1 := PS_MX hE hS1
  have hg1 := hS1.2.2.2.1
  have cn := C_takeNumber (lo := 1) (hi := 32) (pw := 1) hX1 (by decide) (by decide) (Or.inr ⟨rfl, by decide, by decide⟩)
  have mn := L_number (K := Km) (lo := 1) (hi := 32) (pw := 1) hg1 hM1 (by decide) (by decide) (Or.inr ⟨rfl, by decide, by decide⟩)
  have ek : (advF F B) 10 0 0 = Bm 14 0 7 (j + 1) := hS1.2.1.2.1
  have ev : (advF F B) 10 0 2 = B 10 0 7 (j + 1) := hS1.2.1.2.2.2.1
  have tk := hE.1.2.2 (j + 1) hS1.2.1.1.1 hS1.2.1.1.2
  have e3 : Bm 14 0 7 (j + 1) = 3 → (advF F B) 10 0 2 = Bm 14 0 9 (j + 1) := fun z => by rw [ev]; exact (tk.2.2.2.2.2.1 z).1
  unfold f_Parser_takeLength f_M_length
  rw [if_pos ⟨(by first | decide | omega), k3⟩, e11, if_pos ⟨(by first | decide | omega), k10⟩, C_adv hX, L_good hg]
  simp only [zb_s]
  rw [if_pos (show r32 1 by decide), if_neg (show ¬ (1 : Int) = 0 by decide), L_isSign hM (by decide)]
  simp only [zb_s]
  rw [if_pos (show r32 (sgm Bm j 58) by omega), if_neg hs, hM.1]
  by_cases k : Bm 14 0 7 (j + 1) = 3
  · by_cases o : nOK (Bm 14 0 9 (j + 1)) 1 32 1
    · rw [cn.1 (by rw [ek]; exact k) (by rw [e3 k]; exact o), mn.1 k o, e3 k]
      simp only [zb_s]
      have o2 := o
      obtain ⟨o3, o4, o5⟩ := o2
      have hj1 : ¬ Bm 14 0 7 (j + 1) = 0 := by omega
      have hS2 := PS_step hE (PS_u (k := 19) (v := Bm 14 0 9 (j + 1)) hS1 (by decide)) hj1
      have e19 : (advF (zup3 (advF F B) 3 0 19 (Bm 14 0 9 (j + 1))) B) 3 0 19 = Bm 14 0 9 (j + 1) := by rw [advF_o (by decide)]; simp [zup3_v]
      have zm : zmax (Bm 14 0 9 (j + 1)) 1 = Bm 14 0 9 (j + 1) := by unfold zmax; split <;> omega
      rw [if_pos (show r32 1 by decide), if_neg (show ¬ (1 : Int) = 0 by decide), e19, if_pos (by first | decide | omega), zm, if_pos (iI_n0 (by first | decide | omega) (by first | decide | omega))]
      refine zP_m (P_points (K := K) (Km := Km) (N := N) (n := Bm 14 0 9 (j + 1)) (v := zdv 128 (Bm 14 0 9 (j + 1))) hf (o5.resolve_left (by decide)) rfl (q := 2) (p := 0) (j := j + 1 + 1) (by first | decide | omega) (by first | decide | omega) (by first | decide | omega) (by first | decide | omega) hE hS2) (fun r F' B' r' Fm' Bm' hh => ?_)
      obtain ⟨h1, h2, h3, h4, h5, j', h6, h7, h8, h9, h10, h11, h12⟩ := hh
      refine ⟨h2, fF_t (fF_a (fF_u (fF_a fF_r) (by decide))) h3, fG_t (fG_u (fG_u fG_r (by decide) (by decide)) (by decide) (by decide)) h4, h5, Or.inl ⟨h1, j', (by first | decide | omega), h7, h8, h9, ?_, ?_, ?_⟩⟩
      · rw [h10, advF_o (by decide)]; simp [zup3_v]; rw [advF_o (by decide)]
      · rw [h11, advF_o (by decide)]; simp [zup3_v]; rw [advF_o (by decide)]
      · rw [h12, advF_o (by decide)]; simp [zup3_v]; rw [advF_o (by decide)]
    · rw [cn.2.1 (by rw [ek]; exact k) (by rw [e3 k]; exact o), mn.2.1 k o]
      simp only [zb_s]
      have hr := PS_err (s := 5) (s' := 5) hE hS1 (by rw [if_neg (by first | decide | omega)]) (by decide)
      obtain ⟨m, rfl⟩ : ∃ x, Km = x + 1 := ⟨Km - 1, (by first | decide | omega)⟩
      rw [if_pos (show r32 0 by decide), if_pos trivial]
      unfold f_M_length_37 f_M_length_74
      rw [L_goodB hr.2]
      simp only [zb_s]
      rw [if_pos (by decide), if_pos (by decide), L_len84 hf]
      refine zP_s ⟨rfl, fF_e (fF_a fF_r), fG_u (fG_u (fG_e (fG_u fG_r (by decide) (by decide))) (by decide) (by decide)) (by decide) (by decide), fL_l, Or.inr ⟨rfl, ?_⟩⟩
      unfold ERR bad at *
      simp only [zup3_v]
      simpa using hr
  · rw [cn.2.2 (by rw [ek]; exact k), mn.2.2 k]
    simp only [zb_s]
    have hr := PS_err2 hE hS1
    obtain ⟨m, rfl⟩ : ∃ x, Km = x + 1 := ⟨Km - 1, (by first | decide | omega)⟩
    rw [if_pos (show r32 0 by decide), if_pos trivial]
    unfold f_M_length_37 f_M_length_74
    rw [L_goodB hr.2]
    simp only [zb_s]
    rw [if_pos (by decide), if_pos (by decide), L_len84 hf]
    refine zP_s ⟨rfl, fF_e (fF_a fF_r), fG_u (fG_u (fG_e (fG_u fG_r (by decide) (by decide))) (by decide) (by decide)) (by decide) (by decide), fL_l, Or.inr ⟨rfl, ?_⟩⟩
    unfold ERR bad at *
    simp only [zup3_v]
    simpa using hr
end
