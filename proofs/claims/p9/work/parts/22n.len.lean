section
section
/-! ===== lengths, on both sides ===== -/
/-- nothing of the fault changes, and the frames stand -/
def OKL (N j : Int) (F : zF) (B : zB) (Fm : zF) (Bm : zB) (fr : Int) (F' : zF) (B' : zB) (Fm' : zF) (Bm' : zB) : Prop := ∃ j', j ≤ j' ∧ PS N j' F' B' Fm' Bm' ∧ Bm' 14 0 32 fr = Fm' 14 0 20 ∧ Bm' 14 0 33 fr = Fm' 14 0 21 ∧ F' 3 0 14 = F 3 0 14 ∧ F' 3 0 15 = F 3 0 15 ∧ F' 3 0 18 = F 3 0 18
theorem PS_len {N j n p v : Int} {F : zF} {B : zB} {Fm : zF} {Bm : zB} (h : PS N j F B Fm Bm) (hv : v = lenV n p) (hn : pw2 n) (hp : 0 ≤ p ∧ p ≤ 2) : PS N j (zup3 F 3 0 20 v) B (zup3 (zup3 Fm 14 0 20 n) 14 0 21 p) Bm := by
  obtain ⟨e11, hc, ht, hf, hw, hd', hl, hq⟩ := h
  unfold PS CUR at *
  simp only [zup3_v]
  simp
  exact ⟨e11, hc, ht, hf, hw, hd', Or.inr ⟨hv, hn, hp⟩, hq⟩
def fL (fr : Int) (B B' : zB) : Prop := ∀ c i k x, ¬ (c = 14 ∧ i = 0 ∧ (k = 32 ∨ k = 33) ∧ x = fr) → B' c i k x = B c i k x
theorem fL_H {fr : Int} {B B' : zB} (h : fL fr B B') : fH fr B B' := fun c i k x a => h c i k x (fun z => a ⟨z.1, z.2.1, by have := z.2.2.1; omega, by have := z.2.2.1; omega, by have := z.2.2.2; omega⟩)
theorem fL_34 {fr : Int} {B B' : zB} (h : fL fr B B') (k : Nat) (hk : k ≠ 32) (hk' : k ≠ 33) : B' 14 0 k = B 14 0 k := by
  funext x; exact h 14 0 k x (fun z => by have := z.2.2.1; omega)
theorem fL_l {fr : Int} {Bm : zB} {a b : Int} : fL fr Bm (zup4 (zup4 Bm 14 0 32 fr a) 14 0 33 fr b) := fun c i k x n => by
  rw [zup4_v, if_neg (fun z => n ⟨z.1, z.2.1, Or.inr z.2.2.1, z.2.2.2⟩), zup4_v, if_neg (fun z => n ⟨z.1, z.2.1, Or.inl z.2.2.1, z.2.2.2⟩)]
theorem fH_l {fr : Int} {Bm : zB} {a b : Int} : fH fr Bm (zup4 (zup4 Bm 14 0 32 fr a) 14 0 33 fr b) := fH_u (fH_u fH_r (by decide) (by decide) (Int.le_refl _)) (by decide) (by decide) (Int.le_refl _)
theorem L_len84 {Km : Nat} {fr : Int} {Fm : zF} {Bm : zB} (hf : 0 ≤ fr ∧ fr ≤ 3000) : f_M_length_84 Km fr Fm Bm = some (0, Fm, zup4 (zup4 Bm 14 0 32 fr (Fm 14 0 20)) 14 0 33 fr (Fm 14 0 21)) := by
  unfold f_M_length_84
  rw [if_pos (by first | decide | omega)]
theorem L_lengthB {Km : Nat} {fr : Int} {Fm : zF} {Bm : zB} (hf : 0 ≤ fr ∧ fr ≤ 3000) (h : bad Fm) : f_M_length Km fr Fm Bm = some (0, Fm, zup4 (zup4 Bm 14 0 32 fr (Fm 14 0 20)) 14 0 33 fr (Fm 14 0 21)) := by
  unfold f_M_length
  rw [L_goodB h]
  simp only [zb_s]
  rw [if_pos (by decide), if_pos (by decide), L_len84 hf]
theorem L_length0 {Km : Nat} {fr j : Int} {Fm : zF} {Bm : zB} (hf : 0 ≤ fr ∧ fr ≤ 3000) (h : Fm 14 0 17 = 0) (hm : MX Fm Bm j) (hs : sgm Bm j 58 = 0) : f_M_length Km fr Fm Bm = some (0, Fm, zup4 (zup4 Bm 14 0 32 fr (Fm 14 0 20)) 14 0 33 fr (Fm 14 0 21)) := by
  unfold f_M_length
  rw [L_good h]
  simp only [zb_s]
  rw [if_pos (by decide), if_neg (by decide), L_isSign hm (by decide)]
  simp only [zb_s]
  rw [hs, if_pos (by decide), if_pos rfl, L_len84 hf]
theorem P_points {K : zK} {Km : Nat} {N n v fr : Int} (hf : 0 ≤ fr ∧ fr ≤ 3000) (hn : pw2 n) (hv : v = zdv 128 n) : ∀ {q : Nat} {m m' : Nat} {p j : Int} {F : zF} {B : zB} {Fm : zF} {Bm : zB}, p = 2 - q → 0 ≤ p → q < m → q < m' → EV K Km N B Bm → PS N j F B Fm Bm → zP (f_Parser_takeLength_37 K m p p v 0 F B) (f_M_length_37 Km m' p n fr Fm Bm) (fun r F' B' _ Fm' Bm' => r = 1 ∧ B' = B ∧ fF F F' ∧ fG Fm Fm' ∧ fL fr Bm Bm' ∧ OKL N j F B Fm Bm fr F' B' Fm' Bm') := by
  intro q
  have l4 : ztl 4 = 3 := by decide
  -- the end, on both sides
  have fin : ∀ {p j : Int} {F : zF} {B : zB} {Fm : zF} {Bm : zB}, 0 ≤ p → p ≤ 2 → EV K Km N B Bm → PS N j F B Fm Bm → zP (f_Parser_takeLength_70 K p v 0 F B) (f_M_length_74 Km p n fr Fm Bm) (fun r F' B' _ Fm' Bm' => r = 1 ∧ B' = B ∧ fF F F' ∧ fG Fm Fm' ∧ fL fr Bm Bm' ∧ OKL N j F B Fm Bm fr F' B' Fm' Bm') := by
    intro p j F B Fm Bm p0 p2 hE hS
    unfold f_Parser_takeLength_70 f_M_length_74
    rw [if_pos (by first | decide | omega), if_pos ⟨(by first | decide | omega), hE.2.2.2.1⟩, L_len84 hf]
    refine zP_s ⟨rfl, rfl, fF_u fF_r (by decide), fG_u (fG_u fG_r (by decide) (by decide)) (by decide) (by decide), fL_l, j, Int.le_refl _, ?_, ?_, ?_, ?_, ?_, ?_⟩
    · exact PS_f (lo := 0) (pl := 0) (PS_len hS (by rw [hv]; rfl) hn ⟨p0, p2⟩) fB_r fH_l
    · simp [zup4_v]
    · simp [zup4_v]
    · simp [zup3_v]
    · simp [zup3_v]
    · simp [zup3_v]
  induction q with
  | zero =>
    intro m m' p j F B Fm Bm hp p0 hm hm' hE hS
    obtain ⟨m, rfl⟩ : ∃ x, m = x + 1 := ⟨m - 1, (by first | decide | omega)⟩
    obtain ⟨m', rfl⟩ : ∃ x, m' = x + 1 := ⟨m' - 1, (by first | decide | omega)⟩
    have hg := hS.2.2.2.1
    unfold f_Parser_takeLength_37 f_M_length_37
    rw [if_pos (by first | decide | omega), if_pos (by first | decide | omega), L_good hg]
    simp only [zb_s]
    rw [if_pos (by decide), if_neg (by decide), if_pos (by first | decide | omega), if_pos (by first | decide | omega)]
    exact fin p0 (by first | decide | omega) hE hS
  | succ q ih =>
    intro m m' p j F B Fm Bm hp p0 hm hm' hE hS
    obtain ⟨m, rfl⟩ : ∃ x, m = x + 1 := ⟨m - 1, (by first | decide | omega)⟩
    obtain ⟨m', rfl⟩ : ∃ x, m' = x + 1 := ⟨m' - 1, (by first | decide | omega)⟩
    have hg := hS.2.2.2.1
    have hX := PS_CX hE hS
    have hM := PS_MX hE hS
    have e11 := hS.1
    have k3 := hE.2.2.2.1
    have k10 := hE.2.2.2.2.1
    unfold f_Parser_takeLength_37 f_M_length_37
    rw [if_pos (by first | decide | omega), if_neg (by first | decide | omega), if_pos ⟨(by first | decide | omega), k3⟩, e11, if_pos ⟨(by first | decide | omega), k10⟩, C_isSign hX (by decide), L_good hg, PS_sg hE hS]
    simp only [zb_s]
    rw [if_pos (show r32 1 by decide), if_neg (show ¬ (1 : Int) = 0 by decide), if_pos (show r32 p by omega), if_neg (show ¬ 2 ≤ p by omega), L_isSign hM (by decide)]
    simp only [zb_s]
    have s := sgm_r Bm j 46
    rw [if_pos (show r32 (sgm Bm j 46) by omega), if_pos (show r32 (sgm Bm j 46) by omega)]
    by_cases z : sgm Bm j 46 = 0
    · rw [if_pos z, if_pos z]
      exact fin p0 (by first | decide | omega) hE hS
    · have hj : ¬ Bm 14 0 7 j = 0 := by
        have := mt sgm_0.mpr z
        omega
      rw [if_neg z, if_neg z, e11, if_pos ⟨(by first | decide | omega), k10⟩, C_adv hX, hM.1]
      simp only [zb_s]
      refine zP_m (ih (p := p + 1) (j := j + 1) (by first | decide | omega) (by first | decide | omega) (by first | decide | omega) (by first | decide | omega) hE (PS_step hE hS hj)) (fun r F' B' r' Fm' Bm' hh => ?_)
      obtain ⟨h1, h2, h3, h4, h5, j', h6, h7, h8, h9, h10, h11, h12⟩ := hh
      refine ⟨h1, h2, fF_t (fF_a fF_r) h3, fG_t (fG_u fG_r (by decide) (by decide)) h4, h5, j', (by first | decide | omega), h7, h8, h9, ?_, ?_, ?_⟩
      · rw [h10, advF_o (by decide)]
      · rw [h11, advF_o (by decide)]
      · rw [h12, advF_o (by decide)]
theorem P_takeLength {K : zK} {Km : Nat} {N j fr : Int} {F : zF} {B : zB} {Fm : zF} {Bm : zB} (hf : 0 ≤ fr ∧ fr ≤ 3000) (hE : EV K Km N B Bm) (hS : PS N j F B Fm Bm) (hs : ¬ sgm Bm j 58 = 0) : zP (f_Parser_takeLength K 0 F B) (f_M_length Km fr Fm Bm) (fun r F' B' _ Fm' Bm' => B' = B ∧ fF F F' ∧ fG Fm Fm' ∧ fL fr Bm Bm' ∧ (r = 1 ∧ OKL N j F B Fm Bm fr F' B' Fm' Bm' ∨ r = 0 ∧ ERR F' Fm')) := by
  have hg := hS.2.2.2.1
  have hX := PS_CX hE hS
  have hM := PS_MX hE hS
  have e11 := hS.1
  have k3 := hE.2.2.2.1
  have k10 := hE.2.2.2.2.1
  have k1 := hE.2.2.2.2.2.1
  have km := hE.2.2.2.2.2.2
  have s := sgm_r Bm j 58
  have hj : ¬ Bm 14 0 7 j = 0 := by
    have := mt sgm_0.mpr hs
    omega
  have hS1 := PS_step hE hS hj
  have hX1 := PS_CX hE hS1
  have hM1 := PS_MX hE hS1
  have hg1 := hS1.2.2.2.1
  have cn := C_takeNumber (lo := 1) (hi := 32) (pw := 1) hX1 (by decide) (by decide) (Or.inr ⟨rfl, by decide, by decide⟩)
  have mn := L_number (K := Km) (lo := 1) (hi := 32) (pw := 1) hg1 hM1 (by decide) (by decide) (Or.inr ⟨rfl, by decide, by decide⟩)
  have ek : (advF F B) 10 0 0 = Bm 14 0 7 (j + 1) := hS1.2.1.2.1
  have ev : (advF F B) 10 0 2 = B 10 0 7 (j + 1) := hS1.2.1.2.2.2.1
  have tk := hE.1.2.2 (j + 1) hS1.2.1.1.1 hS1.2.1.1.2
  have e3 : Bm 14 0 7 (j + 1) = 3 → (advF F B) 10 0 2 = Bm 14 0 9 (j + 1) := fun z => by rw [ev]; exact (tk.2.2.2.2.2.1 z).1
  unfold f_Parser_takeLength f_M_length
  rw [if_pos ⟨(by first | decide | omega), k3⟩, e11, if_pos ⟨(by first | decide | omega), k10⟩, C_adv hX, L_good hg]
  simp only [zb_s]
  rw [if_pos (show r32 1 by decide), if_neg (show ¬ (1 : Int) = 0 by decide), L_isSign hM (by decide)]
  simp only [zb_s]
  rw [if_pos (show r32 (sgm Bm j 58) by omega), if_neg hs, hM.1]
  by_cases k : Bm 14 0 7 (j + 1) = 3
  · by_cases o : nOK (Bm 14 0 9 (j + 1)) 1 32 1
    · rw [cn.1 (by rw [ek]; exact k) (by rw [e3 k]; exact o), mn.1 k o, e3 k]
      simp only [zb_s]
      have o2 := o
      obtain ⟨o3, o4, o5⟩ := o2
      have hj1 : ¬ Bm 14 0 7 (j + 1) = 0 := by omega
      have hS2 := PS_step hE (PS_u (k := 19) (v := Bm 14 0 9 (j + 1)) hS1 (by decide)) hj1
      have e19 : (advF (zup3 (advF F B) 3 0 19 (Bm 14 0 9 (j + 1))) B) 3 0 19 = Bm 14 0 9 (j + 1) := by rw [advF_o (by decide)]; simp [zup3_v]
      have zm : zmax (Bm 14 0 9 (j + 1)) 1 = Bm 14 0 9 (j + 1) := by unfold zmax; split <;> omega
      rw [if_pos (show r32 1 by decide), if_neg (show ¬ (1 : Int) = 0 by decide), e19, if_pos (by first | decide | omega), zm, if_pos (iI_n0 (by first | decide | omega) (by first | decide | omega))]
      refine zP_m (P_points (K := K) (Km := Km) (N := N) (n := Bm 14 0 9 (j + 1)) (v := zdv 128 (Bm 14 0 9 (j + 1))) hf (o5.resolve_left (by decide)) rfl (q := 2) (p := 0) (j := j + 1 + 1) (by first | decide | omega) (by first | decide | omega) (by first | decide | omega) (by first | decide | omega) hE hS2) (fun r F' B' r' Fm' Bm' hh => ?_)
      obtain ⟨h1, h2, h3, h4, h5, j', h6, h7, h8, h9, h10, h11, h12⟩ := hh
      refine ⟨h2, fF_t (fF_a (fF_u (fF_a fF_r) (by decide))) h3, fG_t (fG_u (fG_u fG_r (by decide) (by decide)) (by decide) (by decide)) h4, h5, Or.inl ⟨h1, j', (by first | decide | omega), h7, h8, h9, ?_, ?_, ?_⟩⟩
      · rw [h10, advF_o (by decide)]; simp [zup3_v]; rw [advF_o (by decide)]
      · rw [h11, advF_o (by decide)]; simp [zup3_v]; rw [advF_o (by decide)]
      · rw [h12, advF_o (by decide)]; simp [zup3_v]; rw [advF_o (by decide)]
    · rw [cn.2.1 (by rw [ek]; exact k) (by rw [e3 k]; exact o), mn.2.1 k o]
      simp only [zb_s]
      have hr := PS_err (s := 5) (s' := 5) hE hS1 (by rw [if_neg (by first | decide | omega)]) (by decide)
      obtain ⟨m, rfl⟩ : ∃ x, Km = x + 1 := ⟨Km - 1, (by first | decide | omega)⟩
      rw [if_pos (show r32 0 by decide), if_pos trivial]
      unfold f_M_length_37 f_M_length_74
      rw [L_goodB hr.2]
      simp only [zb_s]
      rw [if_pos (by decide), if_pos (by decide), L_len84 hf]
      refine zP_s ⟨rfl, fF_e (fF_a fF_r), fG_u (fG_u (fG_e (fG_u fG_r (by decide) (by decide))) (by decide) (by decide)) (by decide) (by decide), fL_l, Or.inr ⟨rfl, ?_⟩⟩
      unfold ERR bad at *
      simp only [zup3_v]
      simpa using hr
  · rw [cn.2.2 (by rw [ek]; exact k), mn.2.2 k]
    simp only [zb_s]
    have hr := PS_err2 hE hS1
    obtain ⟨m, rfl⟩ : ∃ x, Km = x + 1 := ⟨Km - 1, (by first | decide | omega)⟩
    rw [if_pos (show r32 0 by decide), if_pos trivial]
    unfold f_M_length_37 f_M_length_74
    rw [L_goodB hr.2]
    simp only [zb_s]
    rw [if_pos (by decide), if_pos (by decide), L_len84 hf]
    refine zP_s ⟨rfl, fF_e (fF_a fF_r), fG_u (fG_u (fG_e (fG_u fG_r (by decide) (by decide))) (by decide) (by decide)) (by decide) (by decide), fL_l, Or.inr ⟨rfl, ?_⟩⟩
    unfold ERR bad at *
    simp only [zup3_v]
    simpa using hr
end
end
section
section
/-! ===== chords and marks, on both sides ===== -/
def fX (ks : List Nat) (x pl : Int) (B B' : zB) : Prop := ∀ c i k y, ¬ (c = 3 ∧ i = 0 ∧ k ∈ ks ∧ y = x) → ¬ (c = 3 ∧ i = 0 ∧ 8 ≤ k ∧ k ≤ 10 ∧ pl ≤ y) → B' c i k y = B c i k y
theorem fX_r {ks : List Nat} {x pl : Int} {B : zB} : fX ks x pl B B := fun _ _ _ _ _ _ => rfl
theorem fX_t {ks : List Nat} {x pl : Int} {B B' B'' : zB} (h : fX ks x pl B B') (h' : fX ks x pl B' B'') : fX ks x pl B B'' := fun c i k y a b => by rw [h' c i k y a b, h c i k y a b]
theorem fX_u {ks : List Nat} {x pl : Int} {B B' : zB} {k : Nat} {y v : Int} (h : fX ks x pl B B') (hk : k ∈ ks ∧ y = x ∨ 8 ≤ k ∧ k ≤ 10 ∧ pl ≤ y) : fX ks x pl B (zup4 B' 3 0 k y v) := fun c i a b p q => by
  rw [zup4_v, if_neg]
  · exact h c i a b p q
  · rintro ⟨rfl, rfl, rfl, rfl⟩
    rcases hk with z | z
    · exact p ⟨rfl, rfl, z⟩
    · exact q ⟨rfl, rfl, z⟩
theorem fX_m {ks ls : List Nat} {x pl pm : Int} {B B' : zB} (h : fX ks x pl B B') (hk : ∀ k ∈ ks, k ∈ ls) (hp : pm ≤ pl) : fX ls x pm B B' := fun c i k y a b => h c i k y (fun z => a ⟨z.1, z.2.1, hk k z.2.2.1, z.2.2.2⟩) (fun z => b ⟨z.1, z.2.1, z.2.2.1, z.2.2.2.1, (by first | decide | omega)⟩)
theorem fX_B {ks : List Nat} {x pl lo : Int} {B B' : zB} (h : fX ks x pl B B') (hk : ∀ k ∈ ks, k ≤ 7) (hl : lo ≤ x) : fB lo pl B B' := fun c i k y a b => h c i k y (fun z => a ⟨z.1, z.2.1, hk k z.2.2.1, by rw [z.2.2.2]; exact hl⟩) b
theorem fX_3 {ks : List Nat} {x pl : Int} {B B' : zB} (h : fX ks x pl B B') {k : Nat} (hk : k ∉ ks) (h8 : k ≤ 7) (y : Int) : B' 3 0 k y = B 3 0 k y := h 3 0 k y (fun z => hk z.2.2.1) (fun z => by have := z.2.2.1; omega)
/-- the pitches from p on are the reference's tokens from i on, m of them -/
def pitR (B Bm : zB) (p i m : Int) : Prop := ∀ k, 0 ≤ k → k < m → B 3 0 8 (p + k) = Bm 14 0 9 (i + k) ∧ B 3 0 9 (p + k) = Bm 14 0 10 (i + k) ∧ B 3 0 10 (p + k) = Bm 14 0 8 (i + k) ∧ Bm 14 0 7 (i + k) = 2
theorem PS_pit {K : zK} {Km : Nat} {N j x : Int} {F : zF} {B : zB} {Fm : zF} {Bm : zB} (hE : EV K Km N B Bm) (hS : PS N j F B Fm Bm) (h2 : Bm 14 0 7 j = 2) : (0 ≤ F 3 0 15 ∧ F 3 0 15 < 1500) ∧ PS N (j + 1) (advF (zup3 F 3 0 15 (F 3 0 15 + 1)) B) (pitB F B x) (zup3 Fm 14 0 16 (j + 1)) Bm ∧ fX [6] x (F 3 0 15) B (pitB F B x) ∧ (pitB F B x) 3 0 6 x = B 3 0 6 x + 1 ∧ pitR (pitB F B x) Bm (F 3 0 15) j 1 := by
  have hc := CUR_adv hE.1 (j := j) (F := zup3 F 3 0 15 (F 3 0 15 + 1)) (by
    have := hS.2.1
    unfold CUR at *
    simp only [zup3_v]
    simpa using this) (by first | decide | omega)
  have hX : fX [6] x (F 3 0 15) B (pitB F B x) := fX_u (fX_u (fX_u (fX_u fX_r (Or.inr ⟨by decide, by decide, Int.le_refl _⟩)) (Or.inr ⟨by decide, by decide, Int.le_refl _⟩)) (Or.inr ⟨by decide, by decide, Int.le_refl _⟩)) (Or.inl ⟨by decide, rfl⟩)
  obtain ⟨⟨n0, n1, hT⟩, _⟩ := hE
  obtain ⟨e11, ⟨⟨j0, j1⟩, hk, hp, hv, hs, hx⟩, ht, hf, hw, hd, hl, hq⟩ := hS
  obtain ⟨a1, a2, a3, a4, a5, a6, a7, a8, a9, a10, a11⟩ := hT j j0 j1
  have jN : j < N := by have : ¬ j = N := fun z => by have := a4.mpr z; omega
                        omega
  have i := a11 jN
  rw [if_pos h2] at i
  have i2 := (hT (j + 1) (by first | decide | omega) (by first | decide | omega)).2.2.2.2.2.2.2.2.2.1
  obtain ⟨s1, s2⟩ := hs h2
  refine ⟨(by first | decide | omega), PS_B ⟨?_, hc, ?_, ?_, ?_, ?_, ?_, ?_⟩ (fB_10 (fX_B (lo := x) hX (by decide) (Int.le_refl _))) (fun _ _ => rfl), hX, ?_, ?_⟩
  · rw [advF_o (by decide)]; simp [zup3_v]; exact e11
  · simp [zup3_v]
  · simp [zup3_v]; exact hf
  · rw [advF_o (by decide)]; simp [zup3_v]; exact hw
  · rw [advF_o (by decide)]; simp [zup3_v]; exact hd
  · rw [advF_o (by decide), advF_o (by decide)]; simp [zup3_v]; exact hl
  · rw [advF_o (by decide)]; simp [zup3_v]; omega
  · unfold pitB; simp [zup4_v]
  · intro k k0 k1
    have : k = 0 := by omega
    subst this
    unfold pitB
    simp [zup4_v]
    exact ⟨s1, s2, hp, h2⟩
theorem pitR_1 {B B' Bm : zB} {p i m x : Int} {ks : List Nat} (h : pitR B Bm p i 1) (hX : fX ks x (p + 1) B B') (hks : ∀ k ∈ ks, k ≤ 7) (h' : pitR B' Bm (p + 1) (i + 1) m) : pitR B' Bm p i (m + 1) := by
  intro k k0 k1
  by_cases e : k = 0
  · subst e
    have f : ∀ r, 8 ≤ r → B' 3 0 r (p + 0) = B 3 0 r (p + 0) := fun r hr => hX 3 0 r (p + 0) (fun z => by have := hks r z.2.2.1; omega) (fun z => by have := z.2.2.2.2; omega)
    rw [f 8 (by decide), f 9 (by decide), f 10 (by decide)]
    exact h 0 (by first | decide | omega) (by first | decide | omega)
  · have t := h' (k - 1) (by first | decide | omega) (by first | decide | omega)
    rw [show p + 1 + (k - 1) = p + k by omega, show i + 1 + (k - 1) = i + k by omega] at t
    exact t
theorem P_chord {K : zK} {Km : Nat} {N x : Int} (hx : 0 ≤ x ∧ x < 3000) : ∀ {q : Nat} {m m' : Nat} {l j : Int} {F : zF} {B : zB} {Fm : zF} {Bm : zB}, l = 6 - q → 0 ≤ l → q < m → q + 1 < m' → EV K Km N B Bm → PS N j F B Fm Bm → B 3 0 6 x = l → zP (f_Parser_takeChord_9 K m l 0 x F B) (f_M_chord_12 Km m' l Fm Bm) (fun r F' B' _ Fm' Bm' => Bm' = Bm ∧ fF F F' ∧ fG Fm Fm' ∧ fX [6] x (F 3 0 15) B B' ∧ (r = 1 ∧ (∃ n, l + n ≤ 6 ∧ 2 ≤ l + n ∧ 0 ≤ n ∧ PS N (j + n + 1) F' B' Fm' Bm' ∧ B' 3 0 6 x = l + n ∧ F' 3 0 15 = F 3 0 15 + n ∧ pitR B' Bm (F 3 0 15) j n ∧ ¬ Bm 14 0 7 (j + n) = 2 ∧ F' 3 0 14 = F 3 0 14 ∧ F' 3 0 18 = F 3 0 18 ∧ F' 3 0 20 = F 3 0 20) ∨ r = 0 ∧ ERR F' Fm')) := by
  intro q
  -- behind the pitches
  have fin : ∀ {l j : Int} {F : zF} {B : zB} {Fm : zF} {Bm : zB}, 0 ≤ l → l ≤ 6 → EV K Km N B Bm → PS N j F B Fm Bm → B 3 0 6 x = l → ¬ Bm 14 0 7 j = 2 → zP (f_Parser_takeChord_37 K 0 x F B) (f_M_chord_61 Km l Fm Bm) (fun r F' B' _ Fm' Bm' => Bm' = Bm ∧ fF F F' ∧ fG Fm Fm' ∧ fX [6] x (F 3 0 15) B B' ∧ (r = 1 ∧ (∃ n, l + n ≤ 6 ∧ 2 ≤ l + n ∧ 0 ≤ n ∧ PS N (j + n + 1) F' B' Fm' Bm' ∧ B' 3 0 6 x = l + n ∧ F' 3 0 15 = F 3 0 15 + n ∧ pitR B' Bm (F 3 0 15) j n ∧ ¬ Bm 14 0 7 (j + n) = 2 ∧ F' 3 0 14 = F 3 0 14 ∧ F' 3 0 18 = F 3 0 18 ∧ F' 3 0 20 = F 3 0 20) ∨ r = 0 ∧ ERR F' Fm')) := by
    intro l j F B Fm Bm l0 l6 hE hS h6 h2
    have hg := hS.2.2.2.1
    have hX := PS_CX hE hS
    have hM := PS_MX hE hS
    have k3 := hE.2.2.2.1
    unfold f_Parser_takeChord_37 f_Parser_takeChord_61 f_M_chord_61 f_M_chord_77
    rw [if_pos ⟨(by first | decide | omega), k3⟩, if_pos hx, h6, if_pos (by first | decide | omega), L_good hg]
    simp only [zb_s]
    rw [if_pos (show r32 1 by decide), if_neg (show ¬ (1 : Int) = 0 by decide), if_pos (show r32 l by omega)]
    by_cases a : 2 ≤ l
    · rw [if_pos a, if_pos a, C_takeSign hX (by decide), L_need hg hM (by decide), PS_sg hE hS]
      by_cases z : sgm Bm j 62 = 0
      · rw [if_pos z, if_pos z]
        simp only [zb_s]
        rw [if_pos (by decide)]
        exact zP_s ⟨rfl, fF_e fF_r, fG_e fG_r, fX_r, Or.inr ⟨rfl, PS_err2 hE hS⟩⟩
      · rw [if_neg z, if_neg z]
        simp only [zb_s]
        rw [if_pos (by decide)]
        have hj : ¬ Bm 14 0 7 j = 0 := by
          have := mt sgm_0.mpr z
          omega
        refine zP_s ⟨rfl, fF_a fF_r, fG_u fG_r (by decide) (by decide), fX_r, Or.inl ⟨rfl, 0, (by first | decide | omega), (by first | decide | omega), (by first | decide | omega), ?_, (by first | decide | omega), ?_, ?_, ?_, ?_, ?_, ?_⟩⟩
        · rw [show j + 0 + 1 = j + 1 by omega]; exact PS_step hE hS hj
        · rw [advF_o (by decide)]; omega
        · intro k k0 k1; omega
        · rw [show j + 0 = j by omega]; exact h2
        · rw [advF_o (by decide)]
        · rw [advF_o (by decide)]
        · rw [advF_o (by decide)]
    · have er := PS_err2 hE hS
      rw [if_neg a, if_neg a, C_refuse hX, L_wrong hg hM]
      simp only [zb_s]
      rw [L_needB er.2]
      simp only [zb_s]
      rw [if_pos (by decide)]
      exact zP_s ⟨rfl, fF_e fF_r, fG_e fG_r, fX_r, Or.inr ⟨rfl, er⟩⟩
  induction q with
  | zero =>
    intro m m' l j F B Fm Bm hl l0 hm hm' hE hS h6
    obtain ⟨m, rfl⟩ : ∃ y, m = y + 1 := ⟨m - 1, (by first | decide | omega)⟩
    obtain ⟨m', rfl⟩ : ∃ y, m' = y + 1 + 1 := ⟨m' - 2, (by first | decide | omega)⟩
    have hg := hS.2.2.2.1
    have hX := PS_CX hE hS
    have hM := PS_MX hE hS
    have k3 := hE.2.2.2.1
    have hkk := hM.2.2.1
    have h16 := hM.1
    have h0 := hM.2.1
    unfold f_Parser_takeChord_9 f_M_chord_12
    rw [if_pos (by first | decide | omega), if_pos (by first | decide | omega), L_good hg]
    simp only [zb_s]
    rw [if_pos (show r32 1 by decide), if_neg (show ¬ (1 : Int) = 0 by decide), h16, if_pos (by first | decide | omega), if_pos (by first | decide | omega)]
    by_cases k2 : Bm 14 0 7 j = 2
    · have er := PS_err2 hE hS
      rw [if_pos k2, if_pos (by first | decide | omega), if_pos (by first | decide | omega), L_wrong hg hM]
      simp only [zb_s]
      unfold f_M_chord_12
      rw [L_goodB er.2]
      simp only [zb_s]
      rw [if_pos (by decide), if_pos trivial]
      unfold f_M_chord_61 f_M_chord_77
      rw [L_goodB er.2]
      simp only [zb_s]
      rw [if_pos (by decide), if_pos trivial, L_needB er.2]
      unfold f_Parser_takeChord_37 f_Parser_takeChord_61
      have z : sgm Bm j 62 = 0 := sgm_0.mpr (fun z => by have := z.1; omega)
      rw [if_pos ⟨(by first | decide | omega), k3⟩, if_pos hx, h6, if_pos (by first | decide | omega), if_pos (by first | decide | omega), C_takeSign hX (by decide), PS_sg hE hS, if_pos z]
      simp only [zb_s]
      rw [if_pos (by decide)]
      exact zP_s ⟨rfl, fF_e fF_r, fG_e fG_r, fX_r, Or.inr ⟨rfl, er⟩⟩
    · rw [if_neg k2]
      exact fin l0 (by first | decide | omega) hE hS h6 k2
  | succ q ih =>
    intro m m' l j F B Fm Bm hl l0 hm hm' hE hS h6
    obtain ⟨m, rfl⟩ : ∃ y, m = y + 1 := ⟨m - 1, (by first | decide | omega)⟩
    obtain ⟨m', rfl⟩ : ∃ y, m' = y + 1 := ⟨m' - 1, (by first | decide | omega)⟩
    have hg := hS.2.2.2.1
    have hX := PS_CX hE hS
    have hM := PS_MX hE hS
    have k3 := hE.2.2.2.1
    have k10 := hE.2.2.2.2.1
    have hkk := hM.2.2.1
    have h16 := hM.1
    have h0 := hM.2.1
    have ek := hS.2.1.2.1
    unfold f_Parser_takeChord_9 f_M_chord_12
    rw [if_pos (by first | decide | omega), if_neg (by first | decide | omega), if_pos ⟨(by first | decide | omega), k3⟩, hS.1, if_pos ⟨(by first | decide | omega), k10⟩, if_pos (by first | decide | omega), ek, L_good hg]
    simp only [zb_s]
    rw [if_pos (show r32 1 by decide), if_neg (show ¬ (1 : Int) = 0 by decide), h16, if_pos (show 0 ≤ j ∧ j < 3001 by omega), if_pos (show r32 (Bm 14 0 7 j) by omega)]
    by_cases k2 : Bm 14 0 7 j = 2
    · obtain ⟨pp, hS1, hX1, h61, hR⟩ := PS_pit (x := x) hE hS k2
      rw [if_pos k2, if_pos k2, if_pos (by first | decide | omega), if_neg (by first | decide | omega), C_takePitch hX pp hx]
      simp only [zb_s]
      have hfB := fX_B (lo := x) hX1 (by decide) (Int.le_refl _)
      refine zP_m (ih (l := l + 1) (j := j + 1) (by first | decide | omega) (by first | decide | omega) (by first | decide | omega) (by first | decide | omega) (EV_f hE hfB (fH_r (fr := 0))) hS1 (by first | decide | omega)) (fun r F' B' r' Fm' Bm' hh => ?_)
      obtain ⟨g1, g2, g3, g4, g5⟩ := hh
      have e15 : (advF (zup3 F 3 0 15 (F 3 0 15 + 1)) B) 3 0 15 = F 3 0 15 + 1 := by rw [advF_o (by decide)]; simp [zup3_v]
      have e14 : (advF (zup3 F 3 0 15 (F 3 0 15 + 1)) B) 3 0 14 = F 3 0 14 := by rw [advF_o (by decide)]; simp [zup3_v]
      have e18 : (advF (zup3 F 3 0 15 (F 3 0 15 + 1)) B) 3 0 18 = F 3 0 18 := by rw [advF_o (by decide)]; simp [zup3_v]
      have e20 : (advF (zup3 F 3 0 15 (F 3 0 15 + 1)) B) 3 0 20 = F 3 0 20 := by rw [advF_o (by decide)]; simp [zup3_v]
      rw [e15] at g4 g5
      rw [e14, e18, e20] at g5
      refine ⟨g1, fF_t (fF_a (fF_u fF_r (by decide))) g2, fG_t (fG_u fG_r (by decide) (by decide)) g3, fX_t hX1 (fX_m g4 (fun _ z => z) (by first | decide | omega)), ?_⟩
      rcases g5 with ⟨rfl, n, n1, n2, n3, n4, n5, n6, n7, n8, n9⟩ | g5
      · refine Or.inl ⟨rfl, n + 1, (by first | decide | omega), (by first | decide | omega), (by first | decide | omega), ?_, (by first | decide | omega), (by first | decide | omega), pitR_1 hR g4 (by decide) n7, ?_, n9⟩
        · rw [show j + (n + 1) + 1 = j + 1 + n + 1 by omega]; exact n4
        · rw [show j + (n + 1) = j + 1 + n by omega]; exact n8
      · exact Or.inr g5
    · rw [if_neg k2, if_neg k2]
      exact fin l0 (by first | decide | omega) hE hS h6 k2
end
end
section
section
/-! ===== marks, on both sides ===== -/
def mkv (b : Int) : Int := if b = 126 then 1 else if b = 40 then 2 else if b = 41 then 4 else if b = 39 then 8 else if b = 94 then 16 else if b = 45 then 32 else if b = 37 then 64 else 0
theorem mkm_v {B : zB} {j : Int} : mkm B j = if B 14 0 7 j = 5 then mkv (B 14 0 9 j) else 0 := rfl
theorem mkv_ix : ∀ c : Fin 256, (idxS 0 (zi2b (c.val : Int)) 102 0 = -1 ∧ mkv (c.val : Int) = 0) ∨ (0 ≤ idxS 0 (zi2b (c.val : Int)) 102 0 ∧ idxS 0 (zi2b (c.val : Int)) 102 0 ≤ 6 ∧ mkv (c.val : Int) = 2 ^ (idxS 0 (zi2b (c.val : Int)) 102 0).toNat ∧ 1 ≤ mkv (c.val : Int) ∧ mkv (c.val : Int) ≤ 64) := by decide +kernel
theorem mkv_i {b : Int} (h0 : 0 ≤ b) (h1 : b < 256) : (idxS 0 (zi2b b) 102 0 = -1 ∧ mkv b = 0) ∨ (0 ≤ idxS 0 (zi2b b) 102 0 ∧ idxS 0 (zi2b b) 102 0 ≤ 6 ∧ mkv b = 2 ^ (idxS 0 (zi2b b) 102 0).toNat ∧ 1 ≤ mkv b ∧ mkv b ≤ 64) := by
  have i := mkv_ix ⟨b.toNat, (by first | decide | omega)⟩
  rw [show (((⟨b.toNat, (by first | decide | omega)⟩ : Fin 256).val : Nat) : Int) = b by show ((b.toNat : Nat) : Int) = b; omega] at i
  exact i
def mcnt (m : Int) : Int := m % 2 + m / 2 % 2 + m / 4 % 2 + m / 8 % 2 + m / 16 % 2 + m / 32 % 2 + m / 64 % 2
theorem mk_bits : ∀ m : Fin 128, ∀ i : Fin 7, (zand (zshr (m.val : Int) (i.val : Int)) 1 = 0 ↔ zand (m.val : Int) (2 ^ i.val) ≤ 0) ∧ (zand (zshr (m.val : Int) (i.val : Int)) 1 = 0 → zor (m.val : Int) (zshl 1 (i.val : Int)) = zor (m.val : Int) (2 ^ i.val) ∧ 0 ≤ zor (m.val : Int) (2 ^ i.val) ∧ zor (m.val : Int) (2 ^ i.val) < 128 ∧ mcnt (zor (m.val : Int) (2 ^ i.val)) = mcnt (m.val : Int) + 1) ∧ (mcnt (m.val : Int) = 7 → ¬ zand (m.val : Int) (2 ^ i.val) ≤ 0) := by decide +kernel
theorem mk_b {m i : Int} (m0 : 0 ≤ m) (m1 : m < 128) (i0 : 0 ≤ i) (i1 : i ≤ 6) : (zand (zshr m i) 1 = 0 ↔ zand m (2 ^ i.toNat) ≤ 0) ∧ (zand (zshr m i) 1 = 0 → zor m (zshl 1 i) = zor m (2 ^ i.toNat) ∧ 0 ≤ zor m (2 ^ i.toNat) ∧ zor m (2 ^ i.toNat) < 128 ∧ mcnt (zor m (2 ^ i.toNat)) = mcnt m + 1) ∧ (mcnt m = 7 → ¬ zand m (2 ^ i.toNat) ≤ 0) := by
  have h := mk_bits ⟨m.toNat, (by first | decide | omega)⟩ ⟨i.toNat, (by first | decide | omega)⟩
  rw [show (((⟨m.toNat, (by first | decide | omega)⟩ : Fin 128).val : Nat) : Int) = m by show ((m.toNat : Nat) : Int) = m; omega, show (((⟨i.toNat, (by first | decide | omega)⟩ : Fin 7).val : Nat) : Int) = i by show ((i.toNat : Nat) : Int) = i; omega] at h
  exact h
/-- the reference has told a mark that comes twice; the class stands before it and will refuse it -/
def DEL (N : Int) (F : zF) (B : zB) (Fm : zF) (Bm : zB) : Prop := F 3 0 11 = 0 ∧ F 3 0 21 = 0 ∧ (∃ j, CUR F B Bm N j) ∧ F 10 0 0 = 5 ∧ ¬ mkv (F 10 0 2) = 0 ∧ Fm 14 0 17 = 2 ∧ Fm 14 0 18 = F 10 0 1
theorem P_marks {K : zK} {Km : Nat} {N x fr : Int} (hx : 0 ≤ x ∧ x < 3000) (hf : 0 ≤ fr ∧ fr ≤ 3000) : ∀ {q : Nat} {m m' : Nat} {l j : Int} {F : zF} {B : zB} {Fm : zF} {Bm : zB}, l = 7 - q → 0 ≤ l → q < m → q + 1 < m' → EV K Km N B Bm → PS N j F B Fm Bm → B 3 0 7 x = Bm 14 0 34 fr → 0 ≤ B 3 0 7 x ∧ B 3 0 7 x < 128 → mcnt (B 3 0 7 x) = l → zP (f_Parser_takeMarks_2 K m l 0 x F B) (f_M_marks_7 Km m' fr Fm Bm) (fun _ F' B' _ Fm' Bm' => fF F F' ∧ fG Fm Fm' ∧ fX [7] x (F 3 0 15) B B' ∧ fH fr Bm Bm' ∧ (∀ k, k ≤ 33 → Bm' 14 0 k = Bm 14 0 k) ∧ B' 3 0 7 x = Bm' 14 0 34 fr ∧ (0 ≤ B' 3 0 7 x ∧ B' 3 0 7 x < 128) ∧ F' 3 0 14 = F 3 0 14 ∧ F' 3 0 15 = F 3 0 15 ∧ F' 3 0 18 = F 3 0 18 ∧ ((∃ j', j ≤ j' ∧ PS N j' F' B' Fm' Bm') ∨ DEL N F' B' Fm' Bm')) := by
  intro q
  induction q with
  | zero =>
    intro m m' l j F B Fm Bm hl l0 hm hm' hE hS h7 hb hc
    obtain ⟨m, rfl⟩ : ∃ y, m = y + 1 := ⟨m - 1, (by first | decide | omega)⟩
    obtain ⟨m', rfl⟩ : ∃ y, m' = y + 1 + 1 := ⟨m' - 2, (by first | decide | omega)⟩
    have hg := hS.2.2.2.1
    have hX := PS_CX hE hS
    have hM := PS_MX hE hS
    have h16 := hM.1
    have h0 := hM.2.1
    unfold f_Parser_takeMarks_2 f_M_marks_7
    rw [C_slen (by decide) (by decide), L_good hg]
    simp only [zb_s]
    rw [show zsl 0 = 7 by decide, if_pos (show r32 l by omega), if_pos (show r32 7 by decide), if_pos (show 7 ≤ l by omega), if_pos (show r32 1 by decide), if_neg (show ¬ (1 : Int) = 0 by decide)]
    simp only [zb_s, L_markHere hM]
    unfold f_Parser_takeMarks_82
    have tk := hE.1.2.2 j hS.2.1.1.1 hS.2.1.1.2
    by_cases k5 : Bm 14 0 7 j = 5
    · have v5 := hM.2.2.2.1 (Or.inl k5)
      have t5 := tk.2.2.2.2.2.2.2.1 k5
      have eM : mkm Bm j = mkv (Bm 14 0 9 j) := by rw [mkm_v, if_pos k5]
      rcases mkv_i (b := Bm 14 0 9 j) (by first | decide | omega) (by first | decide | omega) with ⟨i1, i2⟩ | ⟨i1, i2, i3, pos⟩
      · rw [eM, i2, if_pos (by decide), if_pos (by decide)]
        unfold f_M_marks_68
        exact zP_s ⟨fF_r, fG_r, fX_r, fH_r, fun _ _ => rfl, h7, hb, rfl, rfl, rfl, Or.inl ⟨j, Int.le_refl _, hS⟩⟩
      · have b := mk_b (m := B 3 0 7 x) (i := idxS 0 (zi2b (Bm 14 0 9 j)) 102 0) hb.1 hb.2 i1 i2
        have hz := b.2.2 (by first | decide | omega)
        rw [eM, if_pos (by first | decide | omega), if_neg (by first | decide | omega), if_pos (by first | decide | omega)]
        rw [← h7, i3, if_pos (zand_r32 _ _), if_neg hz, L_wrong hg hM]
        simp only [zb_s]
        have er := PS_err2 hE hS
        unfold f_M_marks_7
        rw [L_goodB er.2]
        simp only [zb_s]
        rw [if_pos (by decide), if_pos trivial]
        unfold f_M_marks_68
        refine zP_s ⟨fF_r, fG_e fG_r, fX_r, fH_r, fun _ _ => rfl, h7, hb, rfl, rfl, rfl, Or.inr ⟨hS.1, hS.2.2.2.2.1, ⟨j, hS.2.1⟩, ?_, ?_, ?_, ?_⟩⟩
        · rw [hS.2.1.2.1]; exact k5
        · rw [hS.2.1.2.2.2.1, t5.1]; omega
        · unfold errM wr; rw [if_neg (by first | decide | omega)]; simp [zup3_v]
        · unfold errM; simp [zup3_v]; rw [h16]; exact hS.2.1.2.2.1.symm
    · have eM : mkm Bm j = 0 := by rw [mkm_v, if_neg k5]
      rw [eM, if_pos (by decide), if_pos (by decide)]
      unfold f_M_marks_68
      exact zP_s ⟨fF_r, fG_r, fX_r, fH_r, fun _ _ => rfl, h7, hb, rfl, rfl, rfl, Or.inl ⟨j, Int.le_refl _, hS⟩⟩
  | succ q ih =>
    intro m m' l j F B Fm Bm hl l0 hm hm' hE hS h7 hb hc
    obtain ⟨m, rfl⟩ : ∃ y, m = y + 1 := ⟨m - 1, (by first | decide | omega)⟩
    obtain ⟨m', rfl⟩ : ∃ y, m' = y + 1 + 1 := ⟨m' - 2, (by first | decide | omega)⟩
    have hg := hS.2.2.2.1
    have hX := PS_CX hE hS
    have hM := PS_MX hE hS
    have k3 := hE.2.2.2.1
    have k10 := hE.2.2.2.2.1
    have k1 := hE.2.2.2.2.2.1
    have h16 := hM.1
    have h0 := hM.2.1
    have hkk := hM.2.2.1
    have e11 := hS.1
    have ek := hS.2.1.2.1
    have ev := hS.2.1.2.2.2.1
    unfold f_Parser_takeMarks_2 f_M_marks_7
    rw [C_slen (by decide) (by decide), L_good hg]
    simp only [zb_s]
    rw [show zsl 0 = 7 by decide, if_pos (show r32 l by omega), if_pos (show r32 7 by decide), if_neg (show ¬ 7 ≤ l by omega), if_pos ⟨Int.le_refl _, k3⟩, e11, if_pos ⟨Int.le_refl _, k10⟩, if_pos (show r32 (F 10 0 0) by omega), if_pos (show r32 1 by decide), if_neg (show ¬ (1 : Int) = 0 by decide)]
    simp only [zb_s, L_markHere hM]
    have tk := hE.1.2.2 j hS.2.1.1.1 hS.2.1.1.2
    by_cases k5 : Bm 14 0 7 j = 5
    · have v5 := hM.2.2.2.1 (Or.inl k5)
      have t5 := tk.2.2.2.2.2.2.2.1 k5
      have ev5 : F 10 0 2 = Bm 14 0 9 j := by rw [ev]; exact t5.1
      have eM : mkm Bm j = mkv (Bm 14 0 9 j) := by rw [mkm_v, if_pos k5]
      rw [if_pos (show F 10 0 0 = 5 by omega), ev5, zi2c_b (by first | decide | omega) (by first | decide | omega), C_indexOf (by first | decide | omega) (by decide) (by decide) (by decide) (by decide) (by first | decide | omega) (by first | decide | omega)]
      simp only [zb_s]
      rcases mkv_i (b := Bm 14 0 9 j) (by first | decide | omega) (by first | decide | omega) with ⟨i1, i2⟩ | ⟨i1, i2, i3, pos⟩
      · rw [eM, i2, i1, if_pos (show r32 (-1) by decide), if_pos (show (-1 : Int) < 0 by decide), if_pos (show r32 0 by decide), if_pos (show (0 : Int) ≤ 0 by decide)]
        unfold f_Parser_takeMarks_56 f_M_marks_68
        exact zP_s ⟨fF_r, fG_r, fX_r, fH_r, fun _ _ => rfl, h7, hb, rfl, rfl, rfl, Or.inl ⟨j, Int.le_refl _, hS⟩⟩
      · have b := mk_b (m := B 3 0 7 x) (i := idxS 0 (zi2b (Bm 14 0 9 j)) 102 0) hb.1 hb.2 i1 i2
        rw [if_pos (show r32 (idxS 0 (zi2b (Bm 14 0 9 j)) 102 0) by omega), if_neg (show ¬ idxS 0 (zi2b (Bm 14 0 9 j)) 102 0 < 0 by omega), if_pos hx, if_pos (zand_r32 _ _), eM, if_pos (show r32 (mkv (Bm 14 0 9 j)) by omega), if_neg (show ¬ mkv (Bm 14 0 9 j) ≤ 0 by omega), if_pos (show 0 ≤ fr ∧ fr < 3001 by omega)]
        rw [← h7, i3, if_pos (zand_r32 _ _)]
        by_cases z : zand (zshr (B 3 0 7 x) (idxS 0 (zi2b (Bm 14 0 9 j)) 102 0)) 1 = 0
        · obtain ⟨c1, c2, c3, c4⟩ := b.2.1 z
          rw [if_pos z, if_pos (b.1.mp z), e11, if_pos ⟨Int.le_refl _, k10⟩, C_adv (CX_b hX), advF_b, c1, h16]
          simp only [zb_s]
          have hfX : fX [7] x (F 3 0 15) B (zup4 B 3 0 7 x (zor (B 3 0 7 x) (2 ^ (idxS 0 (zi2b (Bm 14 0 9 j)) 102 0).toNat))) := fX_u fX_r (Or.inl ⟨by decide, rfl⟩)
          have hfH : fH fr Bm (zup4 Bm 14 0 34 fr (zor (B 3 0 7 x) (2 ^ (idxS 0 (zi2b (Bm 14 0 9 j)) 102 0).toNat))) := fH_u fH_r (by decide) (by decide) (Int.le_refl _)
          have hfB := fX_B (lo := x) hfX (by decide) (Int.le_refl _)
          have hS1 := PS_f (PS_step hE hS (by first | decide | omega)) hfB hfH
          refine zP_m (ih (l := l + 1) (j := j + 1) (by first | decide | omega) (by first | decide | omega) (by first | decide | omega) (by first | decide | omega) (EV_f hE hfB hfH) hS1 ?_ ?_ ?_) (fun r F' B' r' Fm' Bm' hh => ?_)
          · simp [zup4_v]
          · simp [zup4_v]; omega
          · simp [zup4_v]; omega
          · obtain ⟨g1, g2, g3, g4, g5, g6, g7, g8, g9, g10, g11⟩ := hh
            rw [advF_o (by decide)] at g3 g8 g9 g10
            refine ⟨fF_t (fF_a fF_r) g1, fG_t (fG_u fG_r (by decide) (by decide)) g2, fX_t hfX g3, fH_t hfH g4, fun k hk => ?_, g6, g7, g8, g9, g10, ?_⟩
            · rw [g5 k hk]; funext y; rw [zup4_v, if_neg (fun z => by have := z.2.2.1; omega)]
            · rcases g11 with ⟨j', a, b⟩ | d
              · exact Or.inl ⟨j', (by first | decide | omega), b⟩
              · exact Or.inr d
        · rw [if_neg z, if_neg (fun w => z (b.1.mpr w)), L_wrong hg hM]
          simp only [zb_s]
          have er := PS_err2 hE hS
          unfold f_M_marks_7
          rw [L_goodB er.2]
          simp only [zb_s]
          rw [if_pos (by decide), if_pos trivial]
          unfold f_M_marks_68 f_Parser_takeMarks_56
          refine zP_s ⟨fF_r, fG_e fG_r, fX_r, fH_r, fun _ _ => rfl, h7, hb, rfl, rfl, rfl, Or.inr ⟨hS.1, hS.2.2.2.2.1, ⟨j, hS.2.1⟩, ?_, ?_, ?_, ?_⟩⟩
          · rw [hS.2.1.2.1]; exact k5
          · rw [ev5]; omega
          · unfold errM wr; rw [if_neg (by first | decide | omega)]; simp [zup3_v]
          · unfold errM; simp [zup3_v]; rw [h16]; exact hS.2.1.2.2.1.symm
    · have eM : mkm Bm j = 0 := by rw [mkm_v, if_neg k5]
      rw [eM, if_neg (show ¬ F 10 0 0 = 5 by omega), if_pos (show r32 0 by decide), if_pos (show (0 : Int) ≤ 0 by decide)]
      unfold f_Parser_takeMarks_82 f_M_marks_68
      exact zP_s ⟨fF_r, fG_r, fX_r, fH_r, fun _ _ => rfl, h7, hb, rfl, rfl, rfl, Or.inl ⟨j, Int.le_refl _, hS⟩⟩
end
end
section
section
/-! ===== the class's items and the reference's tokens: one tree ===== -/
def tnv (s : Int) : Int := 12 * (s / 7 + 1) + (2 * (s % 7) - (if s % 7 ≤ 2 then 0 else 1))
theorem nat_f : ∀ s : Fin 63, 0 ≤ zxor (s.val : Int) 7 ∧ zxor (s.val : Int) 7 < 1000 ∧ zdv (s.val : Int) 7 = (s.val : Int) / 7 ∧ zrm (s.val : Int) 7 = (s.val : Int) % 7 ∧ ztv 5 ((s.val : Int) % 7) = 2 * ((s.val : Int) % 7) - (if (s.val : Int) % 7 ≤ 2 then 0 else 1) := by decide +kernel
theorem C_nat {K : zK} {s : Int} {F : zF} {B : zB} (h0 : 0 ≤ s) (h1 : s ≤ 62) : f_S_naturalTone K s F B = some (tnv s, F, B) := by
  have h := nat_f ⟨s.toNat, (by first | decide | omega)⟩
  rw [show (((⟨s.toNat, (by first | decide | omega)⟩ : Fin 63).val : Nat) : Int) = s by show ((s.toNat : Nat) : Int) = s; omega] at h
  obtain ⟨x0, x1, d, r, t⟩ := h
  unfold f_S_naturalTone f_Math_floorDiv f_Math_floorMod f_Math_floorDiv_21 f_Math_floorMod_18
  rw [if_pos (iI_n0 (by decide) (by decide)), if_pos (by first | decide | omega), if_pos x0]
  simp only [zb_s]
  rw [if_pos (iI_n0 (by decide) (by decide)), if_pos (by first | decide | omega), if_pos x0, r]
  simp only [zb_s]
  rw [if_pos (by rw [show ztl 5 = 7 by decide]; omega), d, t]
  rfl
theorem tnv_b {s : Int} (h0 : 0 ≤ s) (h1 : s ≤ 62) : 12 ≤ tnv s ∧ tnv s ≤ 120 := by
  unfold tnv
  split <;> omega
def wdAt (Bm : zB) (i w : Int) : Prop := Bm 14 0 7 i = 4 ∧ Bm 14 0 11 i = w
def sgAt (Bm : zB) (i c : Int) : Prop := Bm 14 0 7 i = 5 ∧ Bm 14 0 9 i = c
def nmAt (Bm : zB) (i v lo hi : Int) : Prop := Bm 14 0 7 i = 3 ∧ Bm 14 0 9 i = v ∧ lo ≤ v ∧ v ≤ hi
/-- an event -/
def evR (B Bm : zB) (x i : Int) : Prop := B 3 0 2 x = lenV (Bm 14 0 32 i) (Bm 14 0 33 i) ∧ pw2 (Bm 14 0 32 i) ∧ (0 ≤ Bm 14 0 33 i ∧ Bm 14 0 33 i ≤ 2) ∧ B 3 0 7 x = Bm 14 0 34 i ∧ (0 ≤ B 3 0 7 x ∧ B 3 0 7 x < 128) ∧ (0 ≤ B 3 0 3 x ∧ B 3 0 3 x + B 3 0 6 x ≤ 1500) ∧ ((wdAt Bm i 114 ∧ B 3 0 6 x = 0) ∨ (B 3 0 6 x = 1 ∧ pitR B Bm (B 3 0 3 x) i 1) ∨ (sgAt Bm i 60 ∧ (2 ≤ B 3 0 6 x ∧ B 3 0 6 x ≤ 6) ∧ pitR B Bm (B 3 0 3 x) (i + 1) (B 3 0 6 x) ∧ ¬ Bm 14 0 7 (i + 1 + B 3 0 6 x) = 2))
/-- a use of the let q, one of the first L -/
def usR (L : Int) (B Bm : zB) (x i : Int) : Prop := wdAt Bm i 7697253 ∧ ∃ q, (0 ≤ q ∧ q < L) ∧ Bm 14 0 25 q = Bm 14 0 11 (i + 1) ∧ B 3 0 2 x = B 3 0 13 q ∧ ∀ p, 0 ≤ p → p < q → ¬ Bm 14 0 25 p = Bm 14 0 11 (i + 1)
/-- an item without a block -/
def IRl (L : Int) (B Bm : zB) (x i : Int) : Prop := B 3 0 1 x = Bm 14 0 8 i ∧ ((B 3 0 0 x = 0 ∧ evR B Bm x i) ∨ (B 3 0 0 x = 1 ∧ sgAt Bm i 124) ∨ (B 3 0 0 x = 2 ∧ sgAt Bm i 33 ∧ B 3 0 2 x = fiL wL (Bm 14 0 11 (i + 1)) 0 ∧ 0 ≤ B 3 0 2 x) ∨ (B 3 0 0 x = 5 ∧ usR L B Bm x i))
def LRf (R : zB → zB → Int → Int → Prop) (B Bm : zB) : Nat → Int → Int → Int → Prop
  | 0, x, i, e => x = -1 ∧ i = e
  | n + 1, x, i, e => (0 ≤ x ∧ x < 3000) ∧ (i < Bm 14 0 31 i ∧ Bm 14 0 31 i ≤ e) ∧ R B Bm x i ∧ LRf R B Bm n (B 3 0 5 x) (Bm 14 0 31 i) e
/-- the block that opens at token a hangs at x -/
def BKf (R : zB → zB → Int → Int → Prop) (B Bm : zB) (x a : Int) : Prop := a < Bm 14 0 30 a ∧ Bm 14 0 30 a ≤ 3000 ∧ ∃ m, LRf R B Bm m (B 3 0 4 x) (a + 1) (Bm 14 0 30 a)
def ALf (R : zB → zB → Int → Int → Prop) (B Bm : zB) : Nat → Int → Int → Int → Prop
  | 0, _, _, _ => False
  | n + 1, y, a, e => (0 ≤ y ∧ y < 3000) ∧ BKf R B Bm y a ∧ ((B 3 0 5 y = -1 ∧ Bm 14 0 30 a + 1 = e) ∨ (Bm 14 0 30 a + 1 < e ∧ ALf R B Bm n (B 3 0 5 y) (Bm 14 0 30 a + 1) e))
def mvV (Bm : zB) (i : Int) : Int := tnv (Bm 14 0 9 i) + Bm 14 0 10 i
/-- an item with blocks -/
def IRn (R : zB → zB → Int → Int → Prop) (B Bm : zB) (x i : Int) : Prop := B 3 0 1 x = Bm 14 0 8 i ∧
  ((B 3 0 0 x = 3 ∧ sgAt Bm i 91 ∧ nmAt Bm (i + 1) (B 3 0 2 x) 2 9 ∧ nmAt Bm (i + 3) (B 3 0 3 x) 1 9 ∧ i + 4 < Bm 14 0 30 i ∧ Bm 14 0 30 i ≤ 3000 ∧ ∃ m, LRf R B Bm m (B 3 0 4 x) (i + 5) (Bm 14 0 30 i)) ∨
   (B 3 0 0 x = 4 ∧ wdAt Bm i 125780002955636 ∧ nmAt Bm (i + 1) (B 3 0 2 x) 2 4 ∧ BKf R B Bm x (i + 2) ∧ ((B 3 0 3 x = -1 ∧ Bm 14 0 30 (i + 2) + 1 = Bm 14 0 31 i) ∨ (∃ n, ALf R B Bm n (B 3 0 3 x) (Bm 14 0 30 (i + 2) + 2) (Bm 14 0 31 i)))) ∨
   (B 3 0 0 x = 6 ∧ wdAt Bm i 1836021349 ∧ Bm 14 0 7 (i + 1) = 2 ∧ Bm 14 0 7 (i + 2) = 2 ∧ B 3 0 2 x = Bm 14 0 9 (i + 2) - Bm 14 0 9 (i + 1) ∧ B 3 0 3 x = mvV Bm (i + 2) - mvV Bm (i + 1) ∧ BKf R B Bm x (i + 3)) ∨
   (B 3 0 0 x = 7 ∧ wdAt Bm i 120299659095922 ∧ Bm 14 0 7 (i + 1) = 2 ∧ B 3 0 2 x = 2 * Bm 14 0 9 (i + 1) ∧ B 3 0 3 x = 2 * mvV Bm (i + 1) ∧ BKf R B Bm x (i + 2)) ∨
   (B 3 0 0 x = 8 ∧ wdAt Bm i 1650549611 ∧ BKf R B Bm x (i + 1)) ∨
   (B 3 0 0 x = 9 ∧ wdAt Bm i 1936486263 ∧ nmAt Bm (i + 1) (B 3 0 2 x) 1 8 ∧ nmAt Bm (i + 3) (B 3 0 3 x) 1 8 ∧ BKf R B Bm x (i + 4)))
def IRd (L : Int) : Nat → zB → zB → Int → Int → Prop
  | 0 => IRl L
  | d + 1 => fun B Bm x i => IRl L B Bm x i ∨ IRn (IRd L d) B Bm x i
/-- a later world agrees with this one on the items lo .. hi (but for what follows x) and the pitches pl .. ph -/
def agB (L lo hi pl ph x : Int) (B Bx : zB) : Prop := (∀ k y, k ≤ 7 → lo ≤ y → y < hi → ¬ (k = 5 ∧ y = x) → Bx 3 0 k y = B 3 0 k y) ∧ (∀ k y, 8 ≤ k → k ≤ 10 → pl ≤ y → y < ph → Bx 3 0 k y = B 3 0 k y) ∧ (∀ q, 0 ≤ q → q < L → Bx 3 0 13 q = B 3 0 13 q)
def agM (L i e : Int) (Bm Bx : zB) : Prop := (∀ k y, 30 ≤ k → k ≤ 34 → i ≤ y → y < e → Bx 14 0 k y = Bm 14 0 k y) ∧ (∀ k, 7 ≤ k → k ≤ 11 → Bx 14 0 k = Bm 14 0 k) ∧ (∀ q, 0 ≤ q → q < L → Bx 14 0 25 q = Bm 14 0 25 q)
theorem agB_r {L lo hi pl ph x : Int} {B : zB} : agB L lo hi pl ph x B B := ⟨fun _ _ _ _ _ _ => rfl, fun _ _ _ _ _ _ => rfl, fun _ _ _ => rfl⟩
theorem agM_r {L i e : Int} {B : zB} : agM L i e B B := ⟨fun _ _ _ _ _ _ => rfl, fun _ _ _ => rfl, fun _ _ _ => rfl⟩
theorem agB_t {L lo hi pl ph x : Int} {B B' B'' : zB} (h : agB L lo hi pl ph x B B') (h' : agB L lo hi pl ph x B' B'') : agB L lo hi pl ph x B B'' := ⟨fun k y a b c d => by rw [h'.1 k y a b c d, h.1 k y a b c d], fun k y a b c d => by rw [h'.2.1 k y a b c d, h.2.1 k y a b c d], fun q a b => by rw [h'.2.2 q a b, h.2.2 q a b]⟩
theorem agM_t {L i e : Int} {B B' B'' : zB} (h : agM L i e B B') (h' : agM L i e B' B'') : agM L i e B B'' := ⟨fun k y a b c d => by rw [h'.1 k y a b c d, h.1 k y a b c d], fun k a b => by rw [h'.2.1 k a b, h.2.1 k a b], fun q a b => by rw [h'.2.2 q a b, h.2.2 q a b]⟩
theorem agB_m {L lo hi pl ph x lo' hi' pl' ph' x' : Int} {B B' : zB} (h : agB L lo hi pl ph x B B') (h1 : lo ≤ lo') (h2 : hi' ≤ hi) (h3 : pl ≤ pl') (h4 : ph' ≤ ph) (h5 : x' = x ∨ x < lo' ∨ hi' ≤ x) : agB L lo' hi' pl' ph' x' B B' := ⟨fun k y a b c d => h.1 k y a (by first | decide | omega) (by first | decide | omega) (fun z => by rcases h5 with q | q | q <;> omega), fun k y a b c d => h.2.1 k y a b (by first | decide | omega) (by first | decide | omega), h.2.2⟩
theorem agM_m {L i e i' e' : Int} {B B' : zB} (h : agM L i e B B') (h1 : i ≤ i') (h2 : e' ≤ e) : agM L i' e' B B' := ⟨fun k y a b c d => h.1 k y a b (by first | decide | omega) (by first | decide | omega), h.2⟩
/-- frames give agreement -/
theorem agB_f {L lo hi pl ph x lo' pl' : Int} {B B' : zB} (h : fB lo' pl' B B') (h1 : hi ≤ lo') (h2 : ph ≤ pl') : agB L lo hi pl ph x B B' := ⟨fun k y a b c d => h 3 0 k y (fun z => by have := z.2.2.2; omega) (fun z => by have := z.2.2.1; omega), fun k y a b c d => h 3 0 k y (fun z => by have := z.2.2.1; omega) (fun z => by have := z.2.2.2.2; omega), fun q a b => h 3 0 13 q (fun z => absurd z.2.2.1 (by decide)) (fun z => absurd z.2.2.2.1 (by decide))⟩
theorem agM_f {L i e fr : Int} {B B' : zB} (h : fH fr B B') (h1 : e ≤ fr) : agM L i e B B' := ⟨fun k y a b c d => h 14 0 k y (fun z => by have := z.2.2.2.2; omega), fun k a b => fH_k h k (by first | decide | omega), fun q a b => h 14 0 25 q (fun z => absurd z.2.2.1 (by decide))⟩
def SIR (L : Int) (d : Nat) (x i hi pl ph e : Int) (B Bm : zB) : Prop := ∀ Bx By, agB L x hi pl ph x B Bx → agM L i e Bm By → IRd L d Bx By x i
def SLR (L : Int) (d : Nat) (n : Nat) (y i e lo hi pl ph : Int) (B Bm : zB) : Prop := ∀ Bx By, agB L lo hi pl ph (-1) B Bx → agM L i e Bm By → LRf (IRd L d) Bx By n y i e
theorem SIR_t {L : Int} {d : Nat} {x i hi pl ph e : Int} {B Bm B' Bm' : zB} (h : SIR L d x i hi pl ph e B Bm) (hB : agB L x hi pl ph x B B') (hM : agM L i e Bm Bm') : SIR L d x i hi pl ph e B' Bm' := fun Bx By a b => h Bx By (agB_t hB a) (agM_t hM b)
theorem SLR_t {L : Int} {d n : Nat} {y i e lo hi pl ph : Int} {B Bm B' Bm' : zB} (h : SLR L d n y i e lo hi pl ph B Bm) (hB : agB L lo hi pl ph (-1) B B') (hM : agM L i e Bm Bm') : SLR L d n y i e lo hi pl ph B' Bm' := fun Bx By a b => h Bx By (agB_t hB a) (agM_t hM b)
end
end
section
section
/-! ===== what follows the pitches of an event, on both sides ===== -/
theorem L_202 {o : oT_P} {Km : Nat} {fr : Int} {Fm : zF} {Bm : zB} (hf : 0 ≤ fr ∧ fr ≤ 3000) : f_M_item_202 o Km fr Fm Bm = some (0, Fm, zup4 Bm 14 0 31 fr (Fm 14 0 16)) := by
  unfold f_M_item_202
  rw [if_pos (by first | decide | omega)]
theorem L_marksB {Km : Nat} {fr : Int} {Fm : zF} {Bm : zB} (hK : 3002 ≤ Km) (hf : 0 ≤ fr ∧ fr ≤ 3000) (h : bad Fm) : f_M_marks Km fr Fm Bm = some (0, Fm, zup4 Bm 14 0 34 fr 0) := by
  obtain ⟨m, rfl⟩ : ∃ y, Km = y + 1 := ⟨Km - 1, (by first | decide | omega)⟩
  unfold f_M_marks f_M_marks_7 f_M_marks_68
  rw [if_pos (by first | decide | omega), L_goodB h]
  simp only [zb_s]
  rw [if_pos (by decide), if_pos trivial]
/-- an event's length and marks are taken; j2 is behind them -/
def EVT (N j x fr : Int) (F : zF) (F' : zF) (B' : zB) (Fm' : zF) (Bm' : zB) : Prop := B' 3 0 2 x = lenV (Bm' 14 0 32 fr) (Bm' 14 0 33 fr) ∧ pw2 (Bm' 14 0 32 fr) ∧ (0 ≤ Bm' 14 0 33 fr ∧ Bm' 14 0 33 fr ≤ 2) ∧ B' 3 0 7 x = Bm' 14 0 34 fr ∧ (0 ≤ B' 3 0 7 x ∧ B' 3 0 7 x < 128) ∧ Bm' 14 0 31 fr = Fm' 14 0 16 ∧ F' 3 0 14 = F 3 0 14 ∧ F' 3 0 15 = F 3 0 15 ∧ F' 3 0 18 = F 3 0 18 ∧ ((∃ j', j ≤ j' ∧ PS N j' F' B' Fm' Bm') ∨ DEL N F' B' Fm' Bm')
theorem P_tail91 {o : oT_P} {K : zK} {Km : Nat} {N j x fr : Int} {F : zF} {B : zB} {Fm : zF} {Bm : zB} (hx : 0 ≤ x ∧ x < 3000) (hf : 0 ≤ fr ∧ fr ≤ 3000) (hE : EV K Km N B Bm) (hS : PS N j F B Fm Bm) (h7 : B 3 0 7 x = 0) (h32 : Bm 14 0 32 fr = Fm 14 0 20) (h33 : Bm 14 0 33 fr = Fm 14 0 21) (hdp : 1 ≤ F 3 0 18) : zP (f_Parser_takeEvent_91 K 0 0 x F B) (zbind (f_M_marks Km fr Fm Bm) (fun _ F3 B3 => f_M_item_202 o Km fr F3 B3)) (fun r F' B' _ Fm' Bm' => fF F F' ∧ fG Fm Fm' ∧ fX [2, 7] x (F 3 0 15) B B' ∧ fH fr Bm Bm' ∧ r = 1 ∧ EVT N j x fr F F' B' Fm' Bm') := by
  have k3 := hE.2.2.2.1
  have k1 := hE.2.2.2.2.2.1
  have km := hE.2.2.2.2.2.2
  have hl := PS_pw hS hdp
  have hX1 : fX [2, 7] x (F 3 0 15) B (zup4 B 3 0 2 x (F 3 0 20)) := fX_u fX_r (Or.inl ⟨by decide, rfl⟩)
  have hH1 : fH fr Bm (zup4 Bm 14 0 34 fr 0) := fH_u fH_r (by decide) (by decide) (Int.le_refl _)
  have hB1 := fX_B (lo := x) hX1 (by decide) (Int.le_refl _)
  unfold f_Parser_takeEvent_91 f_Parser_takeMarks f_M_marks f_Parser_takeEvent_110
  rw [if_pos ⟨(by first | decide | omega), k3⟩, if_pos hx, if_pos (by decide), if_pos rfl, if_pos (by first | decide | omega)]
  refine zP_c (P_marks (K := K) (Km := Km) (N := N) (x := x) (fr := fr) hx hf (q := 7) (l := 0) (j := j) (by first | decide | omega) (by first | decide | omega) (by first | decide | omega) (by first | decide | omega) (EV_f hE hB1 hH1) (PS_f hS hB1 hH1) ?_ ?_ ?_) (fun r F' B' r' Fm' Bm' hh => ?_)
  · simp [zup4_v, h7]
  · simp [zup4_v, h7]
  · simp [zup4_v, h7, mcnt]
  · obtain ⟨g1, g2, g3, g4, g5, g6, g7, g8, g9, g10, g11⟩ := hh
    rw [L_202 hf]
    have hH2 : fH fr Bm' (zup4 Bm' 14 0 31 fr (Fm' 14 0 16)) := fH_u fH_r (by decide) (by decide) (Int.le_refl _)
    have e32 : Bm' 14 0 32 fr = Fm 14 0 20 := by rw [g5 32 (by decide)]; simp [zup4_v]; exact h32
    have e33 : Bm' 14 0 33 fr = Fm 14 0 21 := by rw [g5 33 (by decide)]; simp [zup4_v]; exact h33
    refine zP_s ⟨g1, g2, fX_t hX1 (fX_m g3 (by decide) (Int.le_refl _)), fH_t hH1 (fH_t g4 hH2), rfl, ?_, ?_, ?_, ?_, g7, ?_, g8, g9, g10, ?_⟩
    · rw [fX_3 g3 (by decide) (by decide)]
      simp [zup4_v]
      rw [e32, e33]; exact hl.1
    · simp [zup4_v]; rw [e32]; exact hl.2.1
    · simp [zup4_v]; rw [e33]; exact hl.2.2
    · simp [zup4_v]; exact g6
    · simp [zup4_v]
    · rcases g11 with ⟨j', a, b⟩ | d
      · exact Or.inl ⟨j', a, PS_f (lo := 0) (pl := 0) b fB_r hH2⟩
      · refine Or.inr ?_
        obtain ⟨d1, d2, ⟨jj, d3⟩, d4⟩ := d
        refine ⟨d1, d2, ⟨jj, ?_⟩, d4⟩
        unfold CUR at *
        simp only [zup4_v]
        simpa using d3
theorem P_tail0 {o : oT_P} {K : zK} {Km : Nat} {N j x fr : Int} {F : zF} {B : zB} {Fm : zF} {Bm : zB} (hx : 0 ≤ x ∧ x < 3000) (hf : 0 ≤ fr ∧ fr ≤ 3000) (hE : EV K Km N B Bm) (hS : PS N j F B Fm Bm) (h7 : B 3 0 7 x = 0) (hdp : 1 ≤ F 3 0 18) : zP (f_Parser_takeEvent_70 K 0 0 x F B) (zbind (f_M_length Km fr Fm Bm) (fun _ F2 B2 => zbind (f_M_marks Km fr F2 B2) (fun _ F3 B3 => f_M_item_202 o Km fr F3 B3))) (fun r F' B' _ Fm' Bm' => fF F F' ∧ fG Fm Fm' ∧ fX [2, 7] x (F 3 0 15) B B' ∧ fH fr Bm Bm' ∧ (r = 1 ∧ EVT N j x fr F F' B' Fm' Bm' ∨ r = 0 ∧ ERR F' Fm')) := by
  have hg := hS.2.2.2.1
  have hX := PS_CX hE hS
  have hM := PS_MX hE hS
  have e11 := hS.1
  have k3 := hE.2.2.2.1
  have k10 := hE.2.2.2.2.1
  have km := hE.2.2.2.2.2.2
  have s := sgm_r Bm j 58
  unfold f_Parser_takeEvent_70
  rw [if_pos ⟨(by first | decide | omega), k3⟩, e11, if_pos ⟨(by first | decide | omega), k10⟩, C_isSign hX (by decide), PS_sg hE hS]
  simp only [zb_s]
  rw [if_pos (show r32 (sgm Bm j 58) by omega)]
  by_cases z : sgm Bm j 58 = 0
  · rw [if_pos z, L_length0 hf hg hM z]
    simp only [zb_s]
    have hH : fH fr Bm (zup4 (zup4 Bm 14 0 32 fr (Fm 14 0 20)) 14 0 33 fr (Fm 14 0 21)) := fH_l
    refine zP_m (P_tail91 (o := o) hx hf (EV_f hE (fB_r (lo := 0) (pl := 0)) hH) (PS_f hS (fB_r (lo := 0) (pl := 0)) hH) h7 (by simp [zup4_v]) (by simp [zup4_v]) hdp) (fun r F' B' r' Fm' Bm' hh => ?_)
    obtain ⟨g1, g2, g3, g4, g5, g6⟩ := hh
    exact ⟨g1, g2, g3, fH_t hH g4, Or.inl ⟨g5, g6⟩⟩
  · rw [if_neg z]
    refine zP_c (P_takeLength hf hE hS z) (fun r F' B' r' Fm' Bm' hh => ?_)
    obtain ⟨g1, g2, g3, g4l, g5⟩ := hh
    have g4 := fL_H g4l
    subst g1
    rcases g5 with ⟨rfl, j', h1, h2, h3, h4, h5, h6, h8⟩ | ⟨rfl, er⟩
    · rw [if_pos (show r32 1 by decide), if_neg (show ¬ (1 : Int) = 0 by decide)]
      refine zP_m (P_tail91 (o := o) hx hf (EV_f hE (fB_r (lo := 0) (pl := 0)) g4) h2 h7 h3 h4 (by first | decide | omega)) (fun r F'' B'' r' Fm'' Bm'' hh => ?_)
      obtain ⟨q1, q2, q3, q4, q5, q6⟩ := hh
      rw [h6] at q3
      obtain ⟨y1, y2, y3, y4, y5, y6, y7, y8, y9, y10⟩ := q6
      refine ⟨fF_t g2 q1, fG_t g3 q2, q3, fH_t g4 q4, Or.inl ⟨q5, y1, y2, y3, y4, y5, y6, (by first | decide | omega), (by first | decide | omega), (by first | decide | omega), ?_⟩⟩
      rcases y10 with ⟨jj, a, b⟩ | d
      · exact Or.inl ⟨jj, (by first | decide | omega), b⟩
      · exact Or.inr d
    · rw [if_pos (show r32 0 by decide), if_pos rfl, L_marksB km hf er.2]
      simp only [zb_s]
      rw [L_202 hf]
      exact zP_s ⟨g2, g3, fX_r, fH_t g4 (fH_u (fH_u fH_r (by decide) (by decide) (Int.le_refl _)) (by decide) (by decide) (Int.le_refl _)), Or.inr ⟨rfl, er⟩⟩
theorem P_tail1 {o : oT_P} {K : zK} {Km : Nat} {N j x fr : Int} {F : zF} {B : zB} {Fm : zF} {Bm : zB} (hx : 0 ≤ x ∧ x < 3000) (hf : 0 ≤ fr ∧ fr ≤ 3000) (hE : EV K Km N B Bm) (hS : PS N j F B Fm Bm) (h7 : B 3 0 7 x = 0) (h34 : Bm 14 0 34 fr = 0) (hdp : 1 ≤ F 3 0 18) : zP (f_Parser_takeEvent_70 K 1 0 x F B) (zbind (f_M_length Km fr Fm Bm) (fun _ F2 B2 => f_M_item_202 o Km fr F2 B2)) (fun r F' B' _ Fm' Bm' => fF F F' ∧ fG Fm Fm' ∧ fX [2, 7] x (F 3 0 15) B B' ∧ fH fr Bm Bm' ∧ (r = 1 ∧ EVT N j x fr F F' B' Fm' Bm' ∨ r = 0 ∧ ERR F' Fm')) := by
  have hg := hS.2.2.2.1
  have hX := PS_CX hE hS
  have hM := PS_MX hE hS
  have e11 := hS.1
  have k3 := hE.2.2.2.1
  have k10 := hE.2.2.2.2.1
  have km := hE.2.2.2.2.2.2
  have s := sgm_r Bm j 58
  have fin : ∀ {j : Int} {F : zF} {Fm : zF} {Bm : zB}, EV K Km N B Bm → PS N j F B Fm Bm → Bm 14 0 32 fr = Fm 14 0 20 → Bm 14 0 33 fr = Fm 14 0 21 → Bm 14 0 34 fr = 0 → 1 ≤ F 3 0 18 → zP (f_Parser_takeEvent_91 K 1 0 x F B) (f_M_item_202 o Km fr Fm Bm) (fun r F' B' _ Fm' Bm' => fF F F' ∧ fG Fm Fm' ∧ fX [2, 7] x (F 3 0 15) B B' ∧ fH fr Bm Bm' ∧ r = 1 ∧ EVT N j x fr F F' B' Fm' Bm') := by
    intro j F Fm Bm hE hS h32 h33 h34 hdp
    have hl := PS_pw hS hdp
    have hX1 : fX [2, 7] x (F 3 0 15) B (zup4 B 3 0 2 x (F 3 0 20)) := fX_u fX_r (Or.inl ⟨by decide, rfl⟩)
    have hB1 := fX_B (lo := x) hX1 (by decide) (Int.le_refl _)
    have hH2 : fH fr Bm (zup4 Bm 14 0 31 fr (Fm 14 0 16)) := fH_u fH_r (by decide) (by decide) (Int.le_refl _)
    unfold f_Parser_takeEvent_91 f_Parser_takeEvent_110
    rw [if_pos ⟨(by first | decide | omega), k3⟩, if_pos hx, if_pos (by decide), if_neg (by decide), L_202 hf]
    refine zP_s ⟨fF_r, fG_r, hX1, hH2, rfl, ?_, ?_, ?_, ?_, ?_, ?_, rfl, rfl, rfl, Or.inl ⟨j, Int.le_refl _, PS_f hS hB1 hH2⟩⟩
    · simp [zup4_v]; rw [h32, h33]; exact hl.1
    · simp [zup4_v]; rw [h32]; exact hl.2.1
    · simp [zup4_v]; rw [h33]; exact hl.2.2
    · simp [zup4_v]; rw [h7, h34]
    · simp [zup4_v]; rw [h7]; decide
    · simp [zup4_v]
  unfold f_Parser_takeEvent_70
  rw [if_pos ⟨(by first | decide | omega), k3⟩, e11, if_pos ⟨(by first | decide | omega), k10⟩, C_isSign hX (by decide), PS_sg hE hS]
  simp only [zb_s]
  rw [if_pos (show r32 (sgm Bm j 58) by omega)]
  by_cases z : sgm Bm j 58 = 0
  · rw [if_pos z, L_length0 hf hg hM z]
    simp only [zb_s]
    have hH : fH fr Bm (zup4 (zup4 Bm 14 0 32 fr (Fm 14 0 20)) 14 0 33 fr (Fm 14 0 21)) := fH_l
    refine zP_m (fin (EV_f hE (fB_r (lo := 0) (pl := 0)) hH) (PS_f hS (fB_r (lo := 0) (pl := 0)) hH) (by simp [zup4_v]) (by simp [zup4_v]) (by simp [zup4_v]; exact h34) hdp) (fun r F' B' r' Fm' Bm' hh => ?_)
    obtain ⟨g1, g2, g3, g4, g5, g6⟩ := hh
    exact ⟨g1, g2, g3, fH_t hH g4, Or.inl ⟨g5, g6⟩⟩
  · rw [if_neg z]
    refine zP_c (P_takeLength hf hE hS z) (fun r F' B' r' Fm' Bm' hh => ?_)
    obtain ⟨g1, g2, g3, g4l, g5⟩ := hh
    have g4 := fL_H g4l
    have e34 : Bm' 14 0 34 = Bm 14 0 34 := fL_34 g4l 34 (by decide) (by decide)
    subst g1
    rcases g5 with ⟨rfl, j', h1, h2, h3, h4, h5, h6, h8⟩ | ⟨rfl, er⟩
    · rw [if_pos (show r32 1 by decide), if_neg (show ¬ (1 : Int) = 0 by decide)]
      refine zP_m (fin (EV_f hE (fB_r (lo := 0) (pl := 0)) g4) h2 h3 h4 (by rw [e34]; exact h34) (by first | decide | omega)) (fun r F'' B'' r' Fm'' Bm'' hh => ?_)
      obtain ⟨q1, q2, q3, q4, q5, q6⟩ := hh
      rw [h6] at q3
      obtain ⟨y1, y2, y3, y4, y5, y6, y7, y8, y9, y10⟩ := q6
      refine ⟨fF_t g2 q1, fG_t g3 q2, q3, fH_t g4 q4, Or.inl ⟨q5, y1, y2, y3, y4, y5, y6, (by first | decide | omega), (by first | decide | omega), (by first | decide | omega), ?_⟩⟩
      rcases y10 with ⟨jj, a, b⟩ | d
      · exact Or.inl ⟨jj, (by first | decide | omega), b⟩
      · exact Or.inr d
    · rw [if_pos (show r32 0 by decide), if_pos rfl, L_202 hf]
      exact zP_s ⟨g2, g3, fX_r, fH_t g4 (fH_u fH_r (by decide) (by decide) (Int.le_refl _)), Or.inr ⟨rfl, er⟩⟩
end
end
section
section
/-! ===== events, on both sides ===== -/
theorem zb_a {x : zO} {k k' : Int → zF → zB → zO} : zbind (zbind x k) k' = zbind x (fun r F B => zbind (k r F B) k') := by
  cases x with
  | none => rfl
  | some q => rfl
def fresh (B Bm : zB) (x j s : Int) : Prop := B 3 0 0 x = s ∧ B 3 0 1 x = Bm 14 0 8 j ∧ B 3 0 2 x = 0 ∧ B 3 0 3 x = -1 ∧ B 3 0 4 x = -1 ∧ B 3 0 5 x = -1 ∧ B 3 0 6 x = 0 ∧ B 3 0 7 x = 0
/-- an item is taken, the same on both sides -/
def OKI (L : Int) (d : Nat) (N j x : Int) (F : zF) (F' : zF) (B' : zB) (Fm' : zF) (Bm' : zB) : Prop := ∃ j', j < j' ∧ PS N j' F' B' Fm' Bm' ∧ Bm' 14 0 31 j = j' ∧ F' 3 0 18 = F 3 0 18 ∧ (F 3 0 14 ≤ F' 3 0 14 ∧ F' 3 0 14 - F 3 0 14 ≤ j' - j - 1) ∧ F 3 0 15 ≤ F' 3 0 15 ∧ B' 3 0 5 x = -1 ∧ SIR L d x j (F' 3 0 14) (F 3 0 15) (F' 3 0 15) j' B' Bm'
def IPO (L : Int) (d : Nat) (N j x : Int) (F : zF) (B : zB) (Fm : zF) (Bm : zB) (r : Int) (F' : zF) (B' : zB) (Fm' : zF) (Bm' : zB) : Prop := fF F F' ∧ fG Fm Fm' ∧ fB x (F 3 0 15) B B' ∧ fH j Bm Bm' ∧ (r = 1 ∧ (OKI L d N j x F F' B' Fm' Bm' ∨ DEL N F' B' Fm' Bm') ∨ r = 0 ∧ ERR F' Fm')
theorem IRd_l {L : Int} {d : Nat} {B Bm : zB} {x i : Int} (h : IRl L B Bm x i) : IRd L d B Bm x i := by
  cases d with
  | zero => exact h
  | succ d => exact Or.inl h
theorem pitR_c {B Bm Bx By : zB} {p i m pl ph : Int} (h : pitR B Bm p i m) (hB : ∀ k y, 8 ≤ k → k ≤ 10 → pl ≤ y → y < ph → Bx 3 0 k y = B 3 0 k y) (hp : pl ≤ p ∧ p + m ≤ ph) (hM : ∀ k, 7 ≤ k → k ≤ 11 → By 14 0 k = Bm 14 0 k) : pitR Bx By p i m := by
  intro k k0 k1
  rw [hB 8 _ (by decide) (by decide) (by first | decide | omega) (by first | decide | omega), hB 9 _ (by decide) (by decide) (by first | decide | omega) (by first | decide | omega), hB 10 _ (by decide) (by decide) (by first | decide | omega) (by first | decide | omega), hM 9 (by decide) (by decide), hM 10 (by decide) (by decide), hM 8 (by decide) (by decide), hM 7 (by decide) (by decide)]
  exact h k k0 k1
theorem ev_SIR {L : Int} {d : Nat} {x j hi pl ph e : Int} {B Bm : zB} (h0 : B 3 0 0 x = 0) (h1 : B 3 0 1 x = Bm 14 0 8 j) (hv : evR B Bm x j) (hx : x < hi) (hp : pl ≤ B 3 0 3 x ∧ B 3 0 3 x + B 3 0 6 x ≤ ph) (he : j < e) : SIR L d x j hi pl ph e B Bm := by
  intro Bx By a b
  have g : ∀ k, k ≤ 7 → k ≠ 5 → Bx 3 0 k x = B 3 0 k x := fun k hk hn => a.1 k x hk (Int.le_refl _) hx (fun z => hn z.1)
  have t : ∀ k, 30 ≤ k → k ≤ 34 → By 14 0 k j = Bm 14 0 k j := fun k hk hl => b.1 k j hk hl (Int.le_refl _) he
  have w : ∀ k, 7 ≤ k → k ≤ 11 → By 14 0 k = Bm 14 0 k := b.2.1
  refine IRd_l ⟨?_, Or.inl ⟨?_, ?_⟩⟩
  · rw [g 1 (by decide) (by decide), w 8 (by decide) (by decide)]; exact h1
  · rw [g 0 (by decide) (by decide)]; exact h0
  · obtain ⟨v1, v2, v3, v4, v5, v6, v7⟩ := hv
    unfold evR wdAt sgAt
    rw [g 2 (by decide) (by decide), g 3 (by decide) (by decide), g 6 (by decide) (by decide), g 7 (by decide) (by decide), t 32 (by decide) (by decide), t 33 (by decide) (by decide), t 34 (by decide) (by decide), w 7 (by decide) (by decide), w 9 (by decide) (by decide), w 11 (by decide) (by decide)]
    refine ⟨v1, v2, v3, v4, v5, v6, ?_⟩
    rcases v7 with q | ⟨q1, q2⟩ | ⟨q1, q2, q3, q4⟩
    · exact Or.inl q
    · exact Or.inr (Or.inl ⟨q1, pitR_c q2 a.2.1 (by first | decide | omega) w⟩)
    · exact Or.inr (Or.inr ⟨q1, q2, pitR_c q3 a.2.1 (by first | decide | omega) w, q4⟩)
/-- from the tail's outcome to the item's -/
theorem EVT_OKI {L : Int} {d : Nat} {K : zK} {Km : Nat} {N j j1 x : Int} {F F1 : zF} {F' : zF} {B' : zB} {Fm' : zF} {Bm' : zB} (hE : EV K Km N B' Bm') (ht : EVT N j1 x j F1 F' B' Fm' Bm') (hj : j < j1) (e14 : F1 3 0 14 = F 3 0 14) (e15 : F 3 0 15 ≤ F1 3 0 15) (e18 : F1 3 0 18 = F 3 0 18) (hx : x < F 3 0 14) (h0 : B' 3 0 0 x = 0) (h1 : B' 3 0 1 x = Bm' 14 0 8 j) (h3 : B' 3 0 3 x = F 3 0 15) (h5 : B' 3 0 5 x = -1) (p0 : 0 ≤ F 3 0 15) (h6 : B' 3 0 3 x + B' 3 0 6 x ≤ F1 3 0 15) (hv : ((wdAt Bm' j 114 ∧ B' 3 0 6 x = 0) ∨ (B' 3 0 6 x = 1 ∧ pitR B' Bm' (B' 3 0 3 x) j 1) ∨ (sgAt Bm' j 60 ∧ (2 ≤ B' 3 0 6 x ∧ B' 3 0 6 x ≤ 6) ∧ pitR B' Bm' (B' 3 0 3 x) (j + 1) (B' 3 0 6 x) ∧ ¬ Bm' 14 0 7 (j + 1 + B' 3 0 6 x) = 2))) : OKI L d N j x F F' B' Fm' Bm' ∨ DEL N F' B' Fm' Bm' := by
  obtain ⟨y1, y2, y3, y4, y5, y6, y7, y8, y9, y10⟩ := ht
  rcases y10 with ⟨j2, a, b⟩ | dd
  · left
    have tk := hE.1.2.2 j2 b.2.1.1.1 b.2.1.1.2
    have pb := b.2.2.2.2.2.2.2
    have pc := tk.2.2.2.2.2.2.2.2.2.1
    refine ⟨j2, (by first | decide | omega), b, by rw [y6]; exact b.2.2.1, (by first | decide | omega), (by first | decide | omega), (by first | decide | omega), h5, ?_⟩
    refine ev_SIR h0 h1 ⟨y1, y2, y3, y4, y5, ⟨(by first | decide | omega), (by first | decide | omega)⟩, hv⟩ (by first | decide | omega) ⟨(by first | decide | omega), (by first | decide | omega)⟩ (by first | decide | omega)
  · exact Or.inr dd
theorem P_evP {o : oT_P} {L : Int} {d : Nat} {K : zK} {Km : Nat} {N j x : Int} {F : zF} {B : zB} {Fm : zF} {Bm : zB} (hx : 0 ≤ x ∧ x < 3000) (hxi : x < F 3 0 14) (hE : EV K Km N B Bm) (hS : PS N j F B Fm Bm) (hF : fresh B Bm x j 0) (h2 : Bm 14 0 7 j = 2) (hdp : 1 ≤ F 3 0 18) : zP (f_Parser_takeEvent K 0 x F B) (zbind (f_M_length Km j (zup3 Fm 14 0 16 (j + 1)) Bm) (fun _ F2 B2 => zbind (f_M_marks Km j F2 B2) (fun _ F3 B3 => f_M_item_202 o Km j F3 B3))) (fun r F' B' _ Fm' Bm' => IPO L d N j x F B Fm Bm r F' B' Fm' Bm') := by
  have e11 := hS.1
  have k3 := hE.2.2.2.1
  have k10 := hE.2.2.2.2.1
  have ek := hS.2.1.2.1
  have jj := hS.2.1.1
  have nn := hE.1.2.1
  obtain ⟨f0, f1, f2, f3, f4, f5, f6, f7⟩ := hF
  have hX0 : fX [3] x (F 3 0 15) B (zup4 B 3 0 3 x (F 3 0 15)) := fX_u fX_r (Or.inl ⟨by decide, rfl⟩)
  have hB0 := fX_B (lo := x) hX0 (by decide) (Int.le_refl _)
  have hE0 := EV_f hE hB0 (fH_r (fr := 0))
  have hS0 := PS_f hS hB0 (fH_r (fr := 0))
  obtain ⟨pp, hS1, hX1, h61, hR⟩ := PS_pit (x := x) hE0 hS0 h2
  have hB1 := fX_B (lo := x) hX1 (by decide) (Int.le_refl _)
  have hE1 := EV_f hE0 hB1 (fH_r (fr := 0))
  unfold f_Parser_takeEvent f_Parser_takeEvent_26
  rw [if_pos ⟨(by first | decide | omega), k3⟩, if_pos hx, e11, if_pos ⟨(by first | decide | omega), k10⟩, if_pos (by first | decide | omega), if_neg (by first | decide | omega), if_pos (by decide), if_pos rfl, if_pos ⟨(by first | decide | omega), k3⟩, if_pos ⟨(by first | decide | omega), k10⟩, if_pos (by first | decide | omega), if_pos (by first | decide | omega), C_takePitch (PS_CX hE0 hS0) pp hx]
  simp only [zb_s]
  refine zP_m (P_tail0 (o := o) (fr := j) hx (by first | decide | omega) hE1 hS1 ?_ (by rw [advF_o (by decide)]; simp [zup3_v]; exact hdp)) (fun r F' B' r' Fm' Bm' hh => ?_)
  · rw [fX_3 hX1 (by decide) (by decide), fX_3 hX0 (by decide) (by decide)]; exact f7
  · obtain ⟨g1, g2, g3, g4, g5⟩ := hh
    have e15 : (advF (zup3 F 3 0 15 (F 3 0 15 + 1)) (zup4 B 3 0 3 x (F 3 0 15))) 3 0 15 = F 3 0 15 + 1 := by rw [advF_o (by decide)]; simp [zup3_v]
    have e14 : (advF (zup3 F 3 0 15 (F 3 0 15 + 1)) (zup4 B 3 0 3 x (F 3 0 15))) 3 0 14 = F 3 0 14 := by rw [advF_o (by decide)]; simp [zup3_v]
    have e18 : (advF (zup3 F 3 0 15 (F 3 0 15 + 1)) (zup4 B 3 0 3 x (F 3 0 15))) 3 0 18 = F 3 0 18 := by rw [advF_o (by decide)]; simp [zup3_v]
    rw [e15] at g3
    have hXX : fX [2, 3, 6, 7] x (F 3 0 15) B B' := fX_t (fX_m hX0 (by decide) (Int.le_refl _)) (fX_t (fX_m hX1 (by decide) (Int.le_refl _)) (fX_m g3 (by decide) (by first | decide | omega)))
    have w : ∀ k, 7 ≤ k → k ≤ 11 → Bm' 14 0 k = Bm 14 0 k := fun k _ hk => fH_k g4 k (by first | decide | omega)
    refine ⟨fF_t (fF_a (fF_u fF_r (by decide))) g1, fG_t (fG_u fG_r (by decide) (by decide)) g2, fX_B hXX (by decide) (Int.le_refl _), g4, ?_⟩
    rcases g5 with ⟨r1, ev⟩ | er
    · have e3 : B' 3 0 3 x = F 3 0 15 := by rw [fX_3 g3 (by decide) (by decide), fX_3 hX1 (by decide) (by decide)]; simp [zup4_v]
      have e6 : B' 3 0 6 x = 1 := by rw [fX_3 g3 (by decide) (by decide), h61, fX_3 hX0 (by decide) (by decide), f6]; rfl
      refine Or.inl ⟨r1, EVT_OKI (EV_f hE1 (fX_B (lo := x) g3 (by decide) (Int.le_refl _)) g4) ev (by first | decide | omega) e14 (by first | decide | omega) e18 hxi ?_ ?_ e3 ?_ (by first | decide | omega) (by first | decide | omega) ?_⟩
      · rw [fX_3 hXX (by decide) (by decide)]; exact f0
      · rw [fX_3 hXX (by decide) (by decide), w 8 (by decide) (by decide)]; exact f1
      · rw [fX_3 hXX (by decide) (by decide)]; exact f5
      · refine Or.inr (Or.inl ⟨e6, ?_⟩)
        rw [e3]
        refine pitR_c (pl := F 3 0 15) (ph := F 3 0 15 + 1) hR (fun k y a b c dd => ?_) (by first | decide | omega) w
        exact g3 3 0 k y (fun z => by have := z.2.2.1; simp at this; omega) (fun z => by have := z.2.2.2.2; omega)
    · exact Or.inr er
theorem P_evC {o : oT_P} {L : Int} {d : Nat} {K : zK} {Km : Nat} {N j x : Int} {F : zF} {B : zB} {Fm : zF} {Bm : zB} (hx : 0 ≤ x ∧ x < 3000) (hxi : x < F 3 0 14) (hE : EV K Km N B Bm) (hS : PS N j F B Fm Bm) (hF : fresh B Bm x j 0) (h2 : sgAt Bm j 60) (hdp : 1 ≤ F 3 0 18) : zP (f_Parser_takeEvent K 0 x F B) (zbind (f_M_chord Km Fm Bm) (fun _ F1 B1 => zbind (f_M_length Km j F1 B1) (fun _ F2 B2 => zbind (f_M_marks Km j F2 B2) (fun _ F3 B3 => f_M_item_202 o Km j F3 B3)))) (fun r F' B' _ Fm' Bm' => IPO L d N j x F B Fm Bm r F' B' Fm' Bm') := by
  have e11 := hS.1
  have k3 := hE.2.2.2.1
  have k10 := hE.2.2.2.2.1
  have k1 := hE.2.2.2.2.2.1
  have km := hE.2.2.2.2.2.2
  have ek := hS.2.1.2.1
  have jj := hS.2.1.1
  have nn := hE.1.2.1
  have h5 := h2.1
  obtain ⟨f0, f1, f2, f3, f4, f5, f6, f7⟩ := hF
  have hX0 : fX [3] x (F 3 0 15) B (zup4 B 3 0 3 x (F 3 0 15)) := fX_u fX_r (Or.inl ⟨by decide, rfl⟩)
  have hB0 := fX_B (lo := x) hX0 (by decide) (Int.le_refl _)
  have hE0 := EV_f hE hB0 (fH_r (fr := 0))
  have hS0 := PS_f hS hB0 (fH_r (fr := 0))
  have hS1 := PS_step hE0 hS0 (by first | decide | omega)
  have pb := hS0.2.2.2.2.2.2.2
  unfold f_Parser_takeEvent f_Parser_takeEvent_26 f_Parser_takeChord f_M_chord
  rw [if_pos ⟨(by first | decide | omega), k3⟩, if_pos hx, e11, if_pos ⟨(by first | decide | omega), k10⟩, if_pos (by first | decide | omega), if_neg (by first | decide | omega), if_pos (by decide), if_pos rfl, if_pos ⟨(by first | decide | omega), k3⟩, if_pos ⟨(by first | decide | omega), k10⟩, if_pos (by first | decide | omega), if_neg (by first | decide | omega), if_pos ⟨(by first | decide | omega), k3⟩, if_pos ⟨(by first | decide | omega), k10⟩, C_adv (PS_CX hE0 hS0), hS.2.2.1]
  simp only [zb_s]
  refine zP_c (P_chord (K := K) (Km := Km) (N := N) hx (q := 6) (l := 0) (j := j + 1) (by first | decide | omega) (by first | decide | omega) (by first | decide | omega) (by first | decide | omega) hE0 hS1 ?_) (fun r F1 B1 r' Fm1 Bm1 hh => ?_)
  · rw [fX_3 hX0 (by decide) (by decide)]; exact f6
  · obtain ⟨c1, c2, c3, c4, c5⟩ := hh
    subst c1
    have a15 : (advF F (zup4 B 3 0 3 x (F 3 0 15))) 3 0 15 = F 3 0 15 := by rw [advF_o (by decide)]
    have a14 : (advF F (zup4 B 3 0 3 x (F 3 0 15))) 3 0 14 = F 3 0 14 := by rw [advF_o (by decide)]
    have a18 : (advF F (zup4 B 3 0 3 x (F 3 0 15))) 3 0 18 = F 3 0 18 := by rw [advF_o (by decide)]
    rw [a15] at c4 c5
    rw [a14, a18] at c5
    have hB1 := fX_B (lo := x) c4 (by decide) (Int.le_refl _)
    have hX01 : fX [2, 3, 6, 7] x (F 3 0 15) B B1 := fX_t (fX_m hX0 (by decide) (Int.le_refl _)) (fX_m c4 (by decide) (Int.le_refl _))
    rcases c5 with ⟨rfl, n, n1, n2, n3, n4, n5, n6, n7, n8, n9, n10, n11⟩ | ⟨rfl, er⟩
    · rw [if_pos (show r32 1 by decide), if_neg (show ¬ (1 : Int) = 0 by decide)]
      have hE1 := EV_f hE0 hB1 (fH_r (fr := 0))
      refine zP_m (P_tail0 (o := o) (fr := j) hx (by first | decide | omega) hE1 n4 ?_ (by first | decide | omega)) (fun r F' B' r' Fm' Bm' hh => ?_)
      · rw [fX_3 c4 (by decide) (by decide), fX_3 hX0 (by decide) (by decide)]; exact f7
      · obtain ⟨g1, g2, g3, g4, g5⟩ := hh
        rw [n6] at g3
        have hXX : fX [2, 3, 6, 7] x (F 3 0 15) B B' := fX_t hX01 (fX_m g3 (by decide) (by first | decide | omega))
        have w : ∀ k, 7 ≤ k → k ≤ 11 → Bm' 14 0 k = Bm1 14 0 k := fun k _ hk => fH_k g4 k (by first | decide | omega)
        refine ⟨fF_t (fF_t (fF_a fF_r) c2) g1, fG_t (fG_t (fG_u fG_r (by decide) (by decide)) c3) g2, fX_B hXX (by decide) (Int.le_refl _), g4, ?_⟩
        rcases g5 with ⟨r1, ev⟩ | er
        · have e3 : B' 3 0 3 x = F 3 0 15 := by rw [fX_3 g3 (by decide) (by decide), fX_3 c4 (by decide) (by decide)]; simp [zup4_v]
          have e6 : B' 3 0 6 x = n := by rw [fX_3 g3 (by decide) (by decide), n5]; omega
          refine Or.inl ⟨r1, EVT_OKI (EV_f hE1 (fX_B (lo := x) g3 (by decide) (Int.le_refl _)) g4) ev (by first | decide | omega) (by first | decide | omega) (by first | decide | omega) (by first | decide | omega) hxi ?_ ?_ e3 ?_ (by first | decide | omega) (by first | decide | omega) ?_⟩
          · rw [fX_3 hXX (by decide) (by decide)]; exact f0
          · rw [fX_3 hXX (by decide) (by decide), w 8 (by decide) (by decide)]; exact f1
          · rw [fX_3 hXX (by decide) (by decide)]; exact f5
          · refine Or.inr (Or.inr ⟨?_, (by first | decide | omega), ?_, ?_⟩)
            · unfold sgAt at *
              rw [w 7 (by decide) (by decide), w 9 (by decide) (by decide)]; exact h2
            · rw [e3, e6]
              refine pitR_c (pl := F 3 0 15) (ph := F 3 0 15 + n) n7 (fun k y a b c dd => ?_) (by first | decide | omega) w
              exact g3 3 0 k y (fun z => by have := z.2.2.1; simp at this; omega) (fun z => by have := z.2.2.2.2; omega)
            · rw [e6, w 7 (by decide) (by decide)]; exact n8
        · exact Or.inr er
    · rw [if_pos (show r32 0 by decide), if_pos rfl, L_lengthB (by first | decide | omega) er.2]
      simp only [zb_s]
      rw [L_marksB km (by first | decide | omega) er.2]
      simp only [zb_s]
      rw [L_202 (by first | decide | omega)]
      exact zP_s ⟨fF_t (fF_a fF_r) c2, fG_t (fG_u fG_r (by decide) (by decide)) c3, fX_B hX01 (by decide) (Int.le_refl _), fH_u (fH_u (fH_u (fH_u fH_r (by decide) (by decide) (Int.le_refl _)) (by decide) (by decide) (Int.le_refl _)) (by decide) (by decide) (Int.le_refl _)) (by decide) (by decide) (Int.le_refl _), Or.inr ⟨rfl, er⟩⟩
theorem P_evR {o : oT_P} {L : Int} {d : Nat} {K : zK} {Km : Nat} {N j x : Int} {F : zF} {B : zB} {Fm : zF} {Bm : zB} (hx : 0 ≤ x ∧ x < 3000) (hxi : x < F 3 0 14) (hE : EV K Km N B Bm) (hS : PS N j F B Fm Bm) (hF : fresh B Bm x j 0) (h2 : wdAt Bm j 114) (hdp : 1 ≤ F 3 0 18) : zP (f_Parser_takeEvent K 0 x F B) (zbind (f_M_length Km j (zup3 Fm 14 0 16 (j + 1)) (zup4 Bm 14 0 34 j 0)) (fun _ F2 B2 => f_M_item_202 o Km j F2 B2)) (fun r F' B' _ Fm' Bm' => IPO L d N j x F B Fm Bm r F' B' Fm' Bm') := by
  have e11 := hS.1
  have k3 := hE.2.2.2.1
  have k10 := hE.2.2.2.2.1
  have ek := hS.2.1.2.1
  have jj := hS.2.1.1
  have nn := hE.1.2.1
  have h4 := h2.1
  obtain ⟨f0, f1, f2, f3, f4, f5, f6, f7⟩ := hF
  have hX0 : fX [3] x (F 3 0 15) B (zup4 B 3 0 3 x (F 3 0 15)) := fX_u fX_r (Or.inl ⟨by decide, rfl⟩)
  have hB0 := fX_B (lo := x) hX0 (by decide) (Int.le_refl _)
  have hE0 := EV_f hE hB0 (fH_r (fr := 0))
  have hS0 := PS_f hS hB0 (fH_r (fr := 0))
  have hS1 := PS_step hE0 hS0 (by first | decide | omega)
  have hH1 : fH j Bm (zup4 Bm 14 0 34 j 0) := fH_u fH_r (by decide) (by decide) (Int.le_refl _)
  have pb := hS0.2.2.2.2.2.2.2
  unfold f_Parser_takeEvent f_Parser_takeEvent_26
  rw [if_pos ⟨(by first | decide | omega), k3⟩, if_pos hx, e11, if_pos ⟨(by first | decide | omega), k10⟩, if_pos (by first | decide | omega), if_pos (by first | decide | omega), if_pos (by decide), if_neg (by decide), if_pos ⟨(by first | decide | omega), k3⟩, if_pos ⟨(by first | decide | omega), k10⟩, C_adv (PS_CX hE0 hS0)]
  simp only [zb_s]
  have hE1 := EV_f hE0 (fB_r (lo := 0) (pl := 0)) hH1
  refine zP_m (P_tail1 (o := o) (fr := j) hx (by first | decide | omega) hE1 (PS_f hS1 (fB_r (lo := 0) (pl := 0)) hH1) ?_ (by simp [zup4_v]) (by rw [advF_o (by decide)]; exact hdp)) (fun r F' B' r' Fm' Bm' hh => ?_)
  · rw [fX_3 hX0 (by decide) (by decide)]; exact f7
  · obtain ⟨g1, g2, g3, g4, g5⟩ := hh
    have a15 : (advF F (zup4 B 3 0 3 x (F 3 0 15))) 3 0 15 = F 3 0 15 := by rw [advF_o (by decide)]
    have a14 : (advF F (zup4 B 3 0 3 x (F 3 0 15))) 3 0 14 = F 3 0 14 := by rw [advF_o (by decide)]
    have a18 : (advF F (zup4 B 3 0 3 x (F 3 0 15))) 3 0 18 = F 3 0 18 := by rw [advF_o (by decide)]
    rw [a15] at g3
    have hXX : fX [2, 3, 7] x (F 3 0 15) B B' := fX_t (fX_m hX0 (by decide) (Int.le_refl _)) (fX_m g3 (by decide) (Int.le_refl _))
    have g4' := fH_t hH1 g4
    have w : ∀ k, 7 ≤ k → k ≤ 11 → Bm' 14 0 k = Bm 14 0 k := fun k _ hk => fH_k g4' k (by first | decide | omega)
    refine ⟨fF_t (fF_a fF_r) g1, fG_t (fG_u fG_r (by decide) (by decide)) g2, fX_B hXX (by decide) (Int.le_refl _), g4', ?_⟩
    rcases g5 with ⟨r1, ev⟩ | er
    · have e3 : B' 3 0 3 x = F 3 0 15 := by rw [fX_3 g3 (by decide) (by decide)]; simp [zup4_v]
      have e6 : B' 3 0 6 x = 0 := by rw [fX_3 hXX (by decide) (by decide)]; exact f6
      refine Or.inl ⟨r1, EVT_OKI (EV_f hE1 (fX_B (lo := x) g3 (by decide) (Int.le_refl _)) g4) ev (by first | decide | omega) a14 (by first | decide | omega) a18 hxi ?_ ?_ e3 ?_ (by first | decide | omega) (by first | decide | omega) (Or.inl ⟨?_, e6⟩)⟩
      · rw [fX_3 hXX (by decide) (by decide)]; exact f0
      · rw [fX_3 hXX (by decide) (by decide), w 8 (by decide) (by decide)]; exact f1
      · rw [fX_3 hXX (by decide) (by decide)]; exact f5
      · unfold wdAt at *
        rw [w 7 (by decide) (by decide), w 11 (by decide) (by decide)]; exact h2
    · exact Or.inr er
end
end
section
section
/-! ===== items one behind the other, on both sides ===== -/
/-- the lets told so far -/
def LT (L : Int) (F : zF) (B : zB) (Fm : zF) (Bm : zB) : Prop := F 3 0 16 = L ∧ Fm 14 0 27 = L ∧ (0 ≤ L ∧ L ≤ 6) ∧ ∀ q, 0 ≤ q → q < L → B 3 0 12 q = Bm 14 0 25 q ∧ r64 (B 3 0 12 q) ∧ 0 ≤ B 3 0 13 q ∧ B 3 0 13 q < 3000
/-- the class's rows change at items from lo on, at pitches from pl on, and at one cell more -/
def fK (k0 : Nat) (x0 lo pl : Int) (B B' : zB) : Prop := ∀ c i k y, ¬ (c = 3 ∧ i = 0 ∧ k ≤ 7 ∧ lo ≤ y) → ¬ (c = 3 ∧ i = 0 ∧ 8 ≤ k ∧ k ≤ 10 ∧ pl ≤ y) → ¬ (c = 3 ∧ i = 0 ∧ k = k0 ∧ y = x0) → B' c i k y = B c i k y
def fJ (fr j : Int) (B B' : zB) : Prop := ∀ c i k x, ¬ (c = 14 ∧ i = 0 ∧ 30 ≤ k ∧ k ≤ 34 ∧ j ≤ x) → ¬ (c = 14 ∧ i = 0 ∧ k = 30 ∧ x = fr) → B' c i k x = B c i k x
theorem fK_t {k0 : Nat} {x0 lo pl : Int} {B B' B'' : zB} (h : fK k0 x0 lo pl B B') (h' : fK k0 x0 lo pl B' B'') : fK k0 x0 lo pl B B'' := fun c i k y a b d => by rw [h' c i k y a b d, h c i k y a b d]
theorem fK_r {k0 : Nat} {x0 lo pl : Int} {B : zB} : fK k0 x0 lo pl B B := fun _ _ _ _ _ _ _ => rfl
theorem fK_B {k0 : Nat} {x0 lo pl lo' pl' : Int} {B B' : zB} (h : fB lo' pl' B B') (h1 : lo ≤ lo') (h2 : pl ≤ pl') : fK k0 x0 lo pl B B' := fun c i k y a b _ => h c i k y (fun z => a ⟨z.1, z.2.1, z.2.2.1, (by first | decide | omega)⟩) (fun z => b ⟨z.1, z.2.1, z.2.2.1, z.2.2.2.1, (by first | decide | omega)⟩)
theorem fK_K {k0 k1 : Nat} {x0 x1 lo pl lo' pl' : Int} {B B' : zB} (h : fK k1 x1 lo' pl' B B') (h1 : lo ≤ lo') (h2 : pl ≤ pl') (h3 : k1 = k0 ∧ x1 = x0 ∨ k1 ≤ 7 ∧ lo ≤ x1) : fK k0 x0 lo pl B B' := fun c i k y a b d => h c i k y (fun z => a ⟨z.1, z.2.1, z.2.2.1, (by first | decide | omega)⟩) (fun z => b ⟨z.1, z.2.1, z.2.2.1, z.2.2.2.1, (by first | decide | omega)⟩) (fun z => by
  rcases h3 with q | q
  · exact d ⟨z.1, z.2.1, z.2.2.1.trans q.1, z.2.2.2.trans q.2⟩
  · exact a ⟨z.1, z.2.1, by rw [z.2.2.1]; exact q.1, by rw [z.2.2.2]; exact q.2⟩)
theorem fK_c {k0 : Nat} {x0 lo pl v : Int} {B B' : zB} (h : fK k0 x0 lo pl B B') : fK k0 x0 lo pl B (zup4 B' 3 0 k0 x0 v) := fun c i k y a b d => by
  rw [zup4_v, if_neg d]; exact h c i k y a b d
theorem fK_u {k0 k : Nat} {x0 lo pl x v : Int} {B B' : zB} (h : fK k0 x0 lo pl B B') (hk : k ≤ 7) (hx : lo ≤ x) : fK k0 x0 lo pl B (zup4 B' 3 0 k x v) := fun c i q y a b d => by
  rw [zup4_v, if_neg]
  · exact h c i q y a b d
  · rintro ⟨rfl, rfl, rfl, rfl⟩
    exact a ⟨rfl, rfl, hk, hx⟩
theorem fK_10 {k0 : Nat} {x0 lo pl : Int} {B B' : zB} (h : fK k0 x0 lo pl B B') (k : Nat) : B' 10 0 k = B 10 0 k := by
  funext x; exact h 10 0 k x (fun z => absurd z.1 (by decide)) (fun z => absurd z.1 (by decide)) (fun z => absurd z.1 (by decide))
theorem fJ_t {fr j : Int} {B B' B'' : zB} (h : fJ fr j B B') (h' : fJ fr j B' B'') : fJ fr j B B'' := fun c i k x a b => by rw [h' c i k x a b, h c i k x a b]
theorem fJ_H {fr j j' : Int} {B B' : zB} (h : fH j' B B') (h1 : j ≤ j') : fJ fr j B B' := fun c i k x a _ => h c i k x (fun z => a ⟨z.1, z.2.1, z.2.2.1, z.2.2.2.1, (by first | decide | omega)⟩)
theorem fJ_m {fr j j' : Int} {B B' : zB} (h : fJ fr j' B B') (h1 : j ≤ j') : fJ fr j B B' := fun c i k x a b => h c i k x (fun z => a ⟨z.1, z.2.1, z.2.2.1, z.2.2.2.1, (by first | decide | omega)⟩) b
theorem fJ_k {fr j : Int} {B B' : zB} (h : fJ fr j B B') (k : Nat) (hk : k ≤ 29) : B' 14 0 k = B 14 0 k := by
  funext x; exact h 14 0 k x (fun z => by have := z.2.2.1; omega) (fun z => by have := z.2.2.1; omega)
theorem fJ_fH {fr j : Int} {B B' : zB} (h : fJ fr j B B') (h1 : fr ≤ j) : fH fr B B' := fun c i k x a => h c i k x (fun z => a ⟨z.1, z.2.1, z.2.2.1, z.2.2.2.1, (by first | decide | omega)⟩) (fun z => a ⟨z.1, z.2.1, (by first | decide | omega), (by first | decide | omega), (by first | decide | omega)⟩)
theorem EV_k {K : zK} {Km : Nat} {N x0 lo pl fr j : Int} {k0 : Nat} {B B' Bm Bm' : zB} (h : EV K Km N B Bm) (hB : fK k0 x0 lo pl B B') (hm : fJ fr j Bm Bm') : EV K Km N B' Bm' := EV_B h (fK_10 hB) (fun k hk => fJ_k hm k (by first | decide | omega))
theorem PS_k {N j0 x0 lo pl fr j : Int} {k0 : Nat} {F : zF} {B B' : zB} {Fm : zF} {Bm Bm' : zB} (h : PS N j0 F B Fm Bm) (hB : fK k0 x0 lo pl B B') (hm : fJ fr j Bm Bm') : PS N j0 F B' Fm Bm' := PS_B h (fK_10 hB) (fun k hk => fJ_k hm k (by first | decide | omega))
theorem LT_k {L x0 lo pl fr j : Int} {k0 : Nat} {F F' : zF} {B B' : zB} {Fm Fm' : zF} {Bm Bm' : zB} (h : LT L F B Fm Bm) (hF : fF F F') (hG : fG Fm Fm') (hB : fK k0 x0 lo pl B B') (hk : k0 ≤ 7) (hm : fJ fr j Bm Bm') : LT L F' B' Fm' Bm' := by
  obtain ⟨a, b, c, e⟩ := h
  refine ⟨?_, ?_, c, fun q q0 q1 => ?_⟩
  · rw [hF 3 0 16 (by decide) (by decide)]; exact a
  · rw [hG 14 0 27 (by decide)]; exact b
  · have r : ∀ k, 11 ≤ k → B' 3 0 k q = B 3 0 k q := fun k h11 => hB 3 0 k q (fun z => by have := z.2.2.1; omega) (fun z => by have := z.2.2.2.1; omega) (fun z => by have := z.2.2.1; omega)
    rw [r 12 (by decide), r 13 (by decide), fJ_k hm 25 (by decide)]
    exact e q q0 q1
theorem fB_K {lo pl : Int} {B B' : zB} (h : fB lo pl B B') : fK 0 (lo) lo pl B B' := fK_B h (Int.le_refl _) (Int.le_refl _)
theorem newB_k {k0 : Nat} {x0 lo pl x s p : Int} {B B' : zB} (h : fK k0 x0 lo pl B B') (hx : lo ≤ x) : fK k0 x0 lo pl B (newB B' x s p) := fK_u (fK_u (fK_u (fK_u (fK_u (fK_u (fK_u (fK_u h (by decide) hx) (by decide) hx) (by decide) hx) (by decide) hx) (by decide) hx) (by decide) hx) (by decide) hx) (by decide) hx
/-- an item of level d is taken alike -/
def ItemSim (L : Int) (K : zK) (Km : Nat) (N : Int) (d : Nat) (oC : Int → Int → zF → zB → zO) (oM : zF → zB → zO) : Prop := ∀ {x j : Int} {F : zF} {B : zB} {Fm : zF} {Bm : zB}, 0 ≤ x → x < 3000 → x + 1 = F 3 0 14 → F 3 0 14 ≤ j + 1 → EV K Km N B Bm → PS N j F B Fm Bm → F 3 0 18 + d = 8 → 1 ≤ F 3 0 18 → LT L F B Fm Bm → fresh B Bm x j (isrt (F 10 0 0) (F 10 0 2)) → ¬ isrt (F 10 0 0) (F 10 0 2) = -1 → zP (oC 0 x F B) (oM Fm Bm) (fun r F' B' _ Fm' Bm' => IPO L d N j x F B Fm Bm r F' B' Fm' Bm')
/-- where no item begins the reference tells it -/
def ItemBad (K : zK) (Km : Nat) (N : Int) (oM : zF → zB → zO) : Prop := ∀ {j : Int} {F : zF} {B : zB} {Fm : zF} {Bm : zB}, EV K Km N B Bm → PS N j F B Fm Bm → isrt (F 10 0 0) (F 10 0 2) = -1 → ∃ r, oM Fm Bm = some (r, errM Fm Bm (wr Bm j), zup4 Bm 14 0 31 j j)
/-- items are taken up to the closing sign, and the sign too -/
def OKM (L : Int) (d : Nat) (N j fr x0 : Int) (k0 : Nat) (F : zF) (F' : zF) (B' : zB) (Fm' : zF) (Bm' : zB) : Prop := ∃ j' n, j < j' ∧ PS N j' F' B' Fm' Bm' ∧ Bm' 14 0 30 fr = j' - 1 ∧ F' 3 0 18 = F 3 0 18 - 1 ∧ (F 3 0 14 ≤ F' 3 0 14 ∧ F' 3 0 14 - F 3 0 14 ≤ j' - 1 - j) ∧ F 3 0 15 ≤ F' 3 0 15 ∧ SLR L d n (B' 3 0 k0 x0) j (j' - 1) (F 3 0 14) (F' 3 0 14) (F 3 0 15) (F' 3 0 15) B' Bm'
theorem refF_18 {F : zF} {s v : Int} (Fm : zF) : ERR (refF F s) Fm → ERR (refF (zup3 F 3 0 18 v) s) Fm := by
  unfold ERR refF
  simp only [zup3_v]
  simp
theorem isrt_c {k v c : Int} (hc : c = 125 ∨ c = 93) (h5 : k = 5) (hv : v = c) : isrt k v = -1 := by
  unfold isrt
  subst h5
  rcases hc with rfl | rfl <;> subst hv <;> decide
theorem isrt_m {k v : Int} (h5 : k = 5) (hv : ¬ mkv v = 0) : isrt k v = -1 ∧ ¬ v = 125 ∧ ¬ v = 93 := by
  have h : v = 126 ∨ v = 40 ∨ v = 41 ∨ v = 39 ∨ v = 94 ∨ v = 45 ∨ v = 37 := by
    unfold mkv at hv
    by_cases a : v = 126
    · exact Or.inl a
    · by_cases a2 : v = 40
      · omega
      · by_cases a3 : v = 41
        · omega
        · by_cases a4 : v = 39
          · omega
          · by_cases a5 : v = 94
            · omega
            · by_cases a6 : v = 45
              · omega
              · by_cases a7 : v = 37
                · omega
                · simp [a, a2, a3, a4, a5, a6, a7] at hv
  subst h5
  rcases h with rfl | rfl | rfl | rfl | rfl | rfl | rfl <;> decide
theorem SLR_0 {L : Int} {d : Nat} {j lo hi pl ph : Int} {B Bm : zB} : SLR L d 0 (-1) j j lo hi pl ph B Bm := fun _ _ _ _ => ⟨rfl, rfl⟩
theorem SLR_1 {L : Int} {d n : Nat} {x j j1 e hi hi' pl ph ph' fr : Int} {B1 Bm1 B2 Bm2 : zB} (hx : 0 ≤ x ∧ x < 3000) (hj : j < j1) (he : j1 ≤ e) (h31 : Bm1 14 0 31 j = j1) (hI : SIR L d x j hi pl ph j1 B1 Bm1) (hR : SLR L d n (B2 3 0 5 x) j1 e hi hi' ph ph' B2 Bm2) (hK : fK 5 x hi ph B1 B2) (hJ : fJ fr j1 Bm1 Bm2) (hf : fr < j) (h1 : x < hi) (h2 : hi ≤ hi') (h3 : pl ≤ ph) (h4 : ph ≤ ph') : SLR L d (n + 1) x j e x hi' pl ph' B2 Bm2 := by
  intro Bx By a b
  have e31 : By 14 0 31 j = j1 := by
    rw [b.1 31 j (by decide) (by decide) (Int.le_refl _) (by first | decide | omega), hJ 14 0 31 j (fun z => by have := z.2.2.2.2; omega) (fun z => absurd z.2.2.1 (by decide))]; exact h31
  have e5 : Bx 3 0 5 x = B2 3 0 5 x := a.1 5 x (by decide) (Int.le_refl _) (by first | decide | omega) (fun z => by have := z.2; omega)
  have aK : agB L x hi pl ph x B1 B2 := ⟨fun k y p q r s => hK 3 0 k y (fun z => by have := z.2.2.2; omega) (fun z => by have := z.2.2.1; omega) (fun z => s ⟨z.2.2.1, z.2.2.2⟩), fun k y p q r s => hK 3 0 k y (fun z => by have := z.2.2.1; omega) (fun z => by have := z.2.2.2.2; omega) (fun z => by have := z.2.2.1; omega), fun q p r => hK 3 0 13 q (fun z => absurd z.2.2.1 (by decide)) (fun z => absurd z.2.2.2.1 (by decide)) (fun z => absurd z.2.2.1 (by decide))⟩
  have aJ : agM L j j1 Bm1 Bm2 := ⟨fun k y p q r s => hJ 14 0 k y (fun z => by have := z.2.2.2.2; omega) (fun z => by have := z.2.2.2; omega), fun k p q => fJ_k hJ k (by first | decide | omega), fun q p r => hJ 14 0 25 q (fun z => absurd z.2.2.1 (by decide)) (fun z => absurd z.2.2.1 (by decide))⟩
  have ax : agB L x hi pl ph x B2 Bx := ⟨fun k y p q r s => a.1 k y p q (by first | decide | omega) (fun z => by have := z.2; omega), fun k y p q r s => a.2.1 k y p q (by first | decide | omega) (by first | decide | omega), a.2.2⟩
  refine ⟨hx, ?_, hI Bx By (agB_t aK ax) (agM_t aJ (agM_m b (Int.le_refl _) he)), ?_⟩
  · rw [e31]; omega
  · rw [e31, e5]
    exact hR Bx By (agB_m a (by first | decide | omega) (Int.le_refl _) (by first | decide | omega) (Int.le_refl _) (Or.inl rfl)) (agM_m b (by first | decide | omega) (Int.le_refl _))
end
end
section
section
/-! ===== the music of a block, on both sides ===== -/
theorem zup3_comm {F : zF} {c c' k k' : Nat} {i i' v v' : Int} (h : ¬ (c = c' ∧ i = i' ∧ k = k')) : zup3 (zup3 F c i k v) c' i' k' v' = zup3 (zup3 F c' i' k' v') c i k v := by
  funext a b d
  simp only [zup3_v]
  by_cases p : a = c' ∧ b = i' ∧ d = k'
  · by_cases q : a = c ∧ b = i ∧ d = k
    · exact absurd ⟨q.1.symm.trans p.1, q.2.1.symm.trans p.2.1, q.2.2.symm.trans p.2.2⟩ h
    · rw [if_pos p, if_neg q, if_pos p]
  · rw [if_neg p]
    by_cases q : a = c ∧ b = i ∧ d = k
    · rw [if_pos q, if_pos q]
    · rw [if_neg q, if_neg q, if_neg p]
theorem DEL_CX {K : zK} {Km : Nat} {N : Int} {F : zF} {B : zB} {Fm : zF} {Bm : zB} (hE : EV K Km N B Bm) (h : DEL N F B Fm Bm) : CX K F B := by
  obtain ⟨⟨n0, n1, hT⟩, hW, h5, k3, k10, k1, km⟩ := hE
  obtain ⟨e11, hw, ⟨j, ⟨j0, j1⟩, hk, hp, hv, hs, hx⟩, _⟩ := h
  obtain ⟨a1, a2, a3, a4, a5, a6, a7, a8, a9, a10, a11⟩ := hT j j0 j1
  refine ⟨k3, k10, e11, (by first | decide | omega), (by first | decide | omega), ?_, h5, k1⟩
  rw [hx]
  split <;> omega
theorem DEL_ERR {K : zK} {Km : Nat} {N v : Int} {F : zF} {B : zB} {Fm : zF} {Bm : zB} (hE : EV K Km N B Bm) (h : DEL N F B Fm Bm) : ERR (refF (zup3 F 3 0 18 v) 2) Fm := by
  obtain ⟨e11, hw, ⟨j, ⟨j0, j1⟩, _, hp, _⟩, h5, hm, h17, h18⟩ := h
  have tp := (hE.1.2.2 j j0 j1).2.2.2.2.2.2.2.2.2.1
  unfold ERR refF bad
  simp only [zup3_v]
  simp
  rw [h17, h18, if_neg (by first | decide | omega)]
  omega
theorem C_mus0 {o : oT_CP} {K : zK} {m : Nat} {i last par : Int} {F : zF} {B : zB} (hX : CX K F B) (hi : r32 i) (hs : isrt (F 10 0 0) (F 10 0 2) = -1) : f_Parser_takeMusic_4 o K (m + 1) i last 0 par F B = some (1, F, B) := by
  unfold f_Parser_takeMusic_4
  rw [if_pos hi]
  by_cases a : 3000 ≤ i
  · rw [if_pos a]
  · rw [if_neg a, if_pos ⟨(by first | decide | omega), hX.1⟩, C_itemSort hX]
    simp only [zb_s]
    rw [hs, if_pos (by decide), if_pos rfl]
theorem newB_at {B : zB} {x s p : Int} : (newB B x s p) 3 0 0 x = s ∧ (newB B x s p) 3 0 1 x = p ∧ (newB B x s p) 3 0 2 x = 0 ∧ (newB B x s p) 3 0 3 x = -1 ∧ (newB B x s p) 3 0 4 x = -1 ∧ (newB B x s p) 3 0 5 x = -1 ∧ (newB B x s p) 3 0 6 x = 0 ∧ (newB B x s p) 3 0 7 x = 0 := by
  unfold newB
  simp [zup4_v]
theorem P_music {L : Int} {d : Nat} {K : zK} {Km : Nat} {N c fr : Int} {o : oT_CP} {oM : zF → zB → zO} {lp : Nat → zF → zB → zO} {kc : Int → zF → zB → zO} (hI : ItemSim L K Km N d o.2.2.1 oM) (hB : ItemBad K Km N oM) (hc : c = 125 ∨ c = 93) (hfr : 0 ≤ fr) (hlp : ∀ n F B, lp (n + 1) F B = zbind (f_M_good Km F B) (fun r2 F2 B2 => if r32 r2 then (if r2 = 0 then zbind (f_M_closing Km fr c F2 B2) (fun _ F9 B9 => some (0, F9, B9)) else zbind (f_M_isSign Km c F2 B2) (fun r5 F5 B5 => if r32 r5 then (if r5 = 0 then zbind (oM F5 B5) (fun _ F8 B8 => lp n F8 B8) else zbind (f_M_closing Km fr c F5 B5) (fun _ F9 B9 => some (0, F9, B9))) else none)) else none)) (hk0 : ∀ F B, kc 0 F B = some (0, F, B)) (hk1 : ∀ F B, CX K F B → kc 1 F B = if sgn F c = 0 then some (0, refF (zup3 F 3 0 18 (F 3 0 18 - 1)) 2, B) else some (1, advF (zup3 F 3 0 18 (F 3 0 18 - 1)) B, B)) : ∀ {q m m' : Nat} {i last par j x0 : Int} {k0 : Nat} {F : zF} {B : zB} {Fm : zF} {Bm : zB}, N - j < q → q < m → q < m' → 0 ≤ i → i ≤ j → fr < j → (last = -1 ∧ k0 = 4 ∧ x0 = par ∨ last = x0 ∧ k0 = 5) → 0 ≤ x0 → x0 < F 3 0 14 → (0 ≤ par ∧ par < 3000) → F 3 0 14 ≤ j → EV K Km N B Bm → PS N j F B Fm Bm → F 3 0 18 + d = 8 → 1 ≤ F 3 0 18 → LT L F B Fm Bm → B 3 0 k0 x0 = -1 → zP (zbind (f_Parser_takeMusic_4 o K m i last 0 par F B) kc) (lp m' Fm Bm) (fun r F' B' _ Fm' Bm' => fF F F' ∧ fG Fm Fm' ∧ fK k0 x0 (F 3 0 14) (F 3 0 15) B B' ∧ fJ fr j Bm Bm' ∧ (r = 1 ∧ OKM L d N j fr x0 k0 F F' B' Fm' Bm' ∨ r = 0 ∧ ERR F' Fm')) := by
  have rc : r32 c := by omega
  -- the reference's loop in a bad state
  have lpB : ∀ {n : Nat} {F : zF} {B : zB}, 0 < n → bad F → lp n F B = some (0, F, B) := by
    intro n F B hn hb
    obtain ⟨n, rfl⟩ : ∃ y, n = y + 1 := ⟨n - 1, (by first | decide | omega)⟩
    rw [hlp, L_goodB hb]
    simp only [zb_s]
    rw [if_pos (by decide), if_pos trivial, L_closingB hb]
    rfl
  intro q
  induction q with
  | zero =>
    intro m m' i last par j x0 k0 F B Fm Bm hN _ _ _ _ _ _ _ _ _ _ _ hS
    have := hS.2.1.1
    omega
  | succ q ih =>
    intro m m' i last par j x0 k0 F B Fm Bm hN hm hm' i0 i1 hfj hl x00 x01 hpar hit hE hS hd hd1 hLT hcell
    obtain ⟨m, rfl⟩ : ∃ y, m = y + 1 := ⟨m - 1, (by first | decide | omega)⟩
    obtain ⟨m', rfl⟩ : ∃ y, m' = y + 1 := ⟨m' - 1, (by first | decide | omega)⟩
    have hg := hS.2.2.2.1
    have hX := PS_CX hE hS
    have hM := PS_MX hE hS
    have jj := hS.2.1.1
    have nn := hE.1.2.1
    have ek := hS.2.1.2.1
    have ep := hS.2.1.2.2.1
    have ev := hS.2.1.2.2.2.1
    have hdd := hS.2.2.2.2.2.1
    have k3 := hE.2.2.2.1
    have tk := hE.1.2.2 j jj.1 jj.2
    have s := sgm_r Bm j c
    by_cases hs : isrt (F 10 0 0) (F 10 0 2) = -1
    · rw [C_mus0 hX (by first | decide | omega) hs, hlp, L_good hg]
      simp only [zb_s]
      rw [hk1 F B hX, PS_sg hE hS, if_pos (show r32 1 by decide), if_neg (show ¬ (1 : Int) = 0 by decide), L_isSign hM rc]
      simp only [zb_s]
      rw [if_pos (show r32 (sgm Bm j c) by omega)]
      by_cases z : sgm Bm j c = 0
      · obtain ⟨r, e⟩ := hB hE hS hs
        have er := PS_err2 hE hS
        rw [if_pos z, if_pos z, e]
        simp only [zb_s]
        rw [lpB (by first | decide | omega) er.2]
        exact zP_s ⟨fF_e (fF_u fF_r (by decide)), fG_e fG_r, fK_r, fJ_H (fH_u fH_r (by decide) (by decide) (Int.le_refl _)) (Int.le_refl _), Or.inr ⟨rfl, refF_18 _ er⟩⟩
      · have z' := Decidable.not_not.mp (mt sgm_0.mpr z)
        rw [if_neg z, if_neg z, L_closing hg hM rc (by first | decide | omega), if_neg z]
        simp only [zb_s]
        have hS1 := PS_step hE (PS_d (d := F 3 0 18 - 1) hS (by first | decide | omega) (PS_pw hS hd1)) (by first | decide | omega)
        have e19 : Fm 14 0 19 = F 3 0 18 := hdd.1.symm
        have hJ : fJ fr j Bm (zup4 Bm 14 0 30 fr j) := fun c' i' k' x' a b => by rw [zup4_v, if_neg (fun w => b w)]
        rw [e19, zup3_comm (by decide)]
        refine zP_s ⟨fF_a (fF_u fF_r (by decide)), fG_u (fG_u fG_r (by decide) (by decide)) (by decide) (by decide), fK_r, hJ, Or.inl ⟨rfl, j + 1, 0, (by first | decide | omega), PS_k hS1 (fK_r (k0 := 0) (x0 := 0) (lo := 0) (pl := 0)) hJ, ?_, ?_, ?_, ?_, ?_⟩⟩
        · simp [zup4_v]
        · rw [advF_o (by decide)]; simp [zup3_v]
        · rw [advF_o (by decide)]; simp [zup3_v]
        · rw [advF_o (by decide)]; simp [zup3_v]
        · rw [hcell, show j + 1 - 1 = j by omega]; exact SLR_0
    · -- an item
      have hjN : j < N := by
        have : ¬ j = N := by
          intro w
          have k0' := tk.2.2.2.1.mpr w
          apply hs
          unfold isrt
          rw [ek, k0']
          rfl
        omega
      have z : sgm Bm j c = 0 := by
        refine sgm_0.mpr (fun w => hs (isrt_c hc (ek.trans w.1) ?_))
        rw [ev, (tk.2.2.2.2.2.2.2.1 w.1).1]; exact w.2
      have sr := isrt_r (F 10 0 0) (F 10 0 2)
      have hx14 : 0 ≤ F 3 0 14 ∧ F 3 0 14 < 3000 := by omega
      -- the class's world when the item is made
      have hK2 : fK k0 x0 (F 3 0 14) (F 3 0 15) B (zup4 (newB B (F 3 0 14) (isrt (F 10 0 0) (F 10 0 2)) (F 10 0 1)) 3 0 k0 x0 (F 3 0 14)) := fK_c (newB_k fK_r (Int.le_refl _))
      have hcls : f_Parser_takeMusic_4 o K (m + 1) i last 0 par F B = zbind (o.2.2.1 0 (F 3 0 14) (zup3 F 3 0 14 (F 3 0 14 + 1)) (zup4 (newB B (F 3 0 14) (isrt (F 10 0 0) (F 10 0 2)) (F 10 0 1)) 3 0 k0 x0 (F 3 0 14))) (fun r15 F15 B15 => if r32 r15 then (if r15 = 0 then some (0, F15, B15) else f_Parser_takeMusic_4 o K m (i + 1) (F 3 0 14) 0 par F15 B15) else none) := by
        rw [f_Parser_takeMusic_4]
        rw [if_pos (show r32 i by omega), if_neg (show ¬ 3000 ≤ i by omega), if_pos ⟨Int.le_refl _, k3⟩, C_itemSort hX]
        simp only [zb_s]
        rw [if_pos (show r32 (isrt (F 10 0 0) (F 10 0 2)) by omega), if_neg hs, C_newItem hX hx14]
        simp only [zb_s]
        unfold f_Parser_takeMusic_57
        rcases hl with ⟨rfl, rfl, rfl⟩ | ⟨rfl, rfl⟩
        · rw [if_pos (show r32 (-1) by decide), if_pos rfl, if_pos hpar, if_pos ⟨Int.le_refl _, k3⟩]
        · rw [if_pos (show r32 last by omega), if_neg (show ¬ last = -1 by omega), if_pos (show 0 ≤ last ∧ last < 3000 by omega), if_pos ⟨Int.le_refl _, k3⟩]
      have hS1 := PS_k (PS_u (k := 14) (v := F 3 0 14 + 1) hS (by decide)) hK2 (fJ_H (fr := fr) (j := j) fH_r (Int.le_refl _))
      have hE1 := EV_k hE hK2 (fJ_H (fr := fr) (j := j) fH_r (Int.le_refl _))
      have hLT1 := LT_k hLT (fF_u (k := 14) (v := F 3 0 14 + 1) fF_r (by decide)) fG_r hK2 (by first | decide | omega) (fJ_H (fr := fr) (j := j) fH_r (Int.le_refl _))
      have a10 : ∀ k, (zup3 F 3 0 14 (F 3 0 14 + 1)) 10 0 k = F 10 0 k := fun k => by simp [zup3_v]
      have a14 : (zup3 F 3 0 14 (F 3 0 14 + 1)) 3 0 14 = F 3 0 14 + 1 := by simp [zup3_v]
      have a15 : (zup3 F 3 0 14 (F 3 0 14 + 1)) 3 0 15 = F 3 0 15 := by simp [zup3_v]
      have a18 : (zup3 F 3 0 14 (F 3 0 14 + 1)) 3 0 18 = F 3 0 18 := by simp [zup3_v]
      have hfresh : fresh (zup4 (newB B (F 3 0 14) (isrt (F 10 0 0) (F 10 0 2)) (F 10 0 1)) 3 0 k0 x0 (F 3 0 14)) Bm (F 3 0 14) j (isrt (F 10 0 0) (F 10 0 2)) := by
        have g : ∀ k, (zup4 (newB B (F 3 0 14) (isrt (F 10 0 0) (F 10 0 2)) (F 10 0 1)) 3 0 k0 x0 (F 3 0 14)) 3 0 k (F 3 0 14) = (newB B (F 3 0 14) (isrt (F 10 0 0) (F 10 0 2)) (F 10 0 1)) 3 0 k (F 3 0 14) := fun k => by rw [zup4_v, if_neg (fun w => by have := w.2.2.2; omega)]
        obtain ⟨b0, b1, b2, b3, b4, b5, b6, b7⟩ := newB_at (B := B) (x := F 3 0 14) (s := isrt (F 10 0 0) (F 10 0 2)) (p := F 10 0 1)
        unfold fresh
        rw [g, g, g, g, g, g, g, g]
        exact ⟨b0, b1.trans ep, b2, b3, b4, b5, b6, b7⟩
      rw [hcls, hlp, L_good hg, zb_a]
      simp only [zb_s]
      rw [if_pos (show r32 1 by decide), if_neg (show ¬ (1 : Int) = 0 by decide), L_isSign hM rc]
      simp only [zb_s]
      rw [if_pos (show r32 (sgm Bm j c) by omega), if_pos z]
      refine zP_c (hI (x := F 3 0 14) (j := j) (F := zup3 F 3 0 14 (F 3 0 14 + 1)) hx14.1 hx14.2 a14.symm (by first | decide | omega) hE1 hS1 (by first | decide | omega) (by first | decide | omega) hLT1 (by rw [a10, a10]; exact hfresh) (by rw [a10, a10]; exact hs)) (fun r F1 B1 r' Fm1 Bm1 hh => ?_)
      obtain ⟨g1, g2, g3, g4, g5⟩ := hh
      rw [a15] at g3
      have gF : fF F F1 := fF_t (fF_u fF_r (by decide)) g1
      have gK : fK k0 x0 (F 3 0 14) (F 3 0 15) B B1 := fK_t hK2 (fK_B g3 (Int.le_refl _) (Int.le_refl _))
      have gJ : fJ fr j Bm Bm1 := fJ_H g4 (Int.le_refl _)
      have hE2 := EV_k hE gK gJ
      rcases g5 with ⟨rfl, ok | del⟩ | ⟨rfl, er⟩
      · obtain ⟨j1, y1, y2, y3, y4, y5, y6, y7, y8⟩ := ok
        rw [a14] at y5
        rw [a15] at y6 y8
        rw [a18] at y4
        rw [if_pos (show r32 1 by decide), if_neg (show ¬ (1 : Int) = 0 by decide)]
        have hLT2 := LT_k hLT gF g2 gK (by first | decide | omega) gJ
        refine zP_m (ih (m := m) (m' := m') (i := i + 1) (last := F 3 0 14) (par := par) (j := j1) (x0 := F 3 0 14) (k0 := 5) (by first | decide | omega) (by first | decide | omega) (by first | decide | omega) (by first | decide | omega) (by first | decide | omega) (by first | decide | omega) (Or.inr ⟨rfl, rfl⟩) hx14.1 (by first | decide | omega) hpar (by first | decide | omega) hE2 y2 (by first | decide | omega) (by first | decide | omega) hLT2 y7) (fun r F' B' r' Fm' Bm' hh => ?_)
        obtain ⟨w1, w2, w3, w4, w5⟩ := hh
        refine ⟨fF_t gF w1, fG_t g2 w2, fK_t gK (fK_K w3 (by first | decide | omega) (by first | decide | omega) (Or.inr ⟨by decide, Int.le_refl _⟩)), fJ_t gJ (fJ_m w4 (by first | decide | omega)), ?_⟩
        rcases w5 with ⟨rfl, j2, n, v1, v2, v3, v4, v5, v6, v7⟩ | er
        · refine Or.inl ⟨rfl, j2, n + 1, (by first | decide | omega), v2, v3, (by first | decide | omega), (by first | decide | omega), (by first | decide | omega), ?_⟩
          have ecell : B' 3 0 k0 x0 = F 3 0 14 := by
            rw [w3 3 0 k0 x0 (fun w => by have := w.2.2.2; omega) (fun w => by have := w.2.2.1; omega) (fun w => by have := w.2.2.2; omega), g3 3 0 k0 x0 (fun w => by have := w.2.2.2; omega) (fun w => by have := w.2.2.1; omega), zup4_v, if_pos ⟨rfl, rfl, rfl, rfl⟩]
          rw [ecell]
          exact SLR_1 hx14 y1 (by first | decide | omega) y3 y8 v7 w3 w4 hfj (by first | decide | omega) (by first | decide | omega) (by first | decide | omega) (by first | decide | omega)
        · exact Or.inr er
      · obtain ⟨m, rfl⟩ : ∃ y, m = y + 1 := ⟨m - 1, (by first | decide | omega)⟩
        have hX2 := DEL_CX hE2 del
        have em := isrt_m del.2.2.2.1 del.2.2.2.2.1
        rw [if_pos (show r32 1 by decide), if_neg (show ¬ (1 : Int) = 0 by decide), C_mus0 hX2 (by first | decide | omega) em.1]
        simp only [zb_s]
        have hb1 : bad Fm1 := ⟨by have := del.2.2.2.2.2.1; omega, by have := del.2.2.2.2.2.1; omega⟩
        rw [hk1 _ _ hX2, if_pos (sgn_0.mpr (fun w => by have := w.2; omega)), lpB (by first | decide | omega) hb1]
        exact zP_s ⟨fF_e (fF_u gF (by decide)), g2, gK, gJ, Or.inr ⟨rfl, DEL_ERR hE2 del⟩⟩
      · rw [if_pos (show r32 0 by decide), if_pos rfl]
        simp only [zb_s]
        rw [hk0, lpB (by first | decide | omega) er.2]
        exact zP_s ⟨gF, g2, gK, gJ, Or.inr ⟨rfl, er⟩⟩
end
end
section
section
/-! ===== blocks and fractions, on both sides ===== -/
def OKB (L : Int) (d : Nat) (N j x : Int) (F : zF) (F' : zF) (B' : zB) (Fm' : zF) (Bm' : zB) : Prop := ∃ j' n, j + 2 ≤ j' ∧ PS N j' F' B' Fm' Bm' ∧ Bm' 14 0 30 j = j' - 1 ∧ F' 3 0 18 = F 3 0 18 ∧ (F 3 0 14 ≤ F' 3 0 14 ∧ F' 3 0 14 - F 3 0 14 ≤ j' - j - 2) ∧ F 3 0 15 ≤ F' 3 0 15 ∧ SLR L (d - 1) n (B' 3 0 4 x) (j + 1) (j' - 1) (F 3 0 14) (F' 3 0 14) (F 3 0 15) (F' 3 0 15) B' Bm' ∧ 1 ≤ d
def BPO (L : Int) (d : Nat) (N j x : Int) (F : zF) (B : zB) (Fm : zF) (Bm : zB) (r : Int) (F' : zF) (B' : zB) (Fm' : zF) (Bm' : zB) : Prop := fF F F' ∧ fG Fm Fm' ∧ fK 4 x (F 3 0 14) (F 3 0 15) B B' ∧ fH j Bm Bm' ∧ (r = 1 ∧ OKB L d N j x F F' B' Fm' Bm' ∨ r = 0 ∧ ERR F' Fm')
def BlkSim (L : Int) (K : zK) (Km : Nat) (N : Int) (d : Nat) (oC : Int → Int → zF → zB → zO) (oM : zF → zB → zO) : Prop := ∀ {x j : Int} {F : zF} {B : zB} {Fm : zF} {Bm : zB}, 0 ≤ x → x < F 3 0 14 → F 3 0 14 ≤ j → EV K Km N B Bm → PS N j F B Fm Bm → F 3 0 18 + d = 8 → (F 3 0 20 = lenV (Fm 14 0 20) (Fm 14 0 21) ∧ pw2 (Fm 14 0 20) ∧ 0 ≤ Fm 14 0 21 ∧ Fm 14 0 21 ≤ 2) → LT L F B Fm Bm → B 3 0 4 x = -1 → zP (oC 0 x F B) (oM Fm Bm) (fun r F' B' _ Fm' Bm' => BPO L d N j x F B Fm Bm r F' B' Fm' Bm')
/-- a block in a bad state: nothing changes -/
def BlkBad (oM : zF → zB → zO) : Prop := ∀ {Fm : zF} {Bm : zB}, bad Fm → oM Fm Bm = some (0, Fm, Bm)
theorem L_blockB {om : oT_P} {Km : Nat} (hK : 3002 ≤ Km) : BlkBad (fun F B => fb_M_block om Km F B) := by
  intro Fm Bm hb
  obtain ⟨m, rfl⟩ : ∃ y, Km = y + 1 := ⟨Km - 1, (by first | decide | omega)⟩
  show fb_M_block om (m + 1) Fm Bm = _
  unfold fb_M_block
  rw [L_openingB hb]
  simp only [zb_s]
  unfold f_M_block_11 f_M_block_34
  rw [L_goodB hb]
  simp only [zb_s]
  rw [if_pos (by decide), if_pos trivial, L_closingB hb]
  rfl
theorem P_block {L : Int} {d : Nat} {K : zK} {Km : Nat} {N : Int} {o o' : oT_CP} {om : oT_P} (ho : ∀ l0 l1 F B, o.2.1 l0 l1 F B = fb_Parser_takeMusic o' K l0 l1 F B) (hI : ∀ d', d = d' + 1 → ItemSim L K Km N d' o'.2.2.1 om.2.1) (hB : ItemBad K Km N om.2.1) : BlkSim L K Km N d (fun l0 l1 F B => fb_Parser_takeBlock o K l0 l1 F B) (fun F B => fb_M_block om Km F B) := by
  intro x j F B Fm Bm x0 x1 hit hE hS hd hpw hLT hcell
  have hg := hS.2.2.2.1
  have hX := PS_CX hE hS
  have hM := PS_MX hE hS
  have jj := hS.2.1.1
  have nn := hE.1.2.1
  have hdd := hS.2.2.2.2.2.1
  have k3 := hE.2.2.2.1
  have k1 := hE.2.2.2.2.2.1
  have km := hE.2.2.2.2.2.2
  show zP (fb_Parser_takeBlock o K 0 x F B) (fb_M_block om Km Fm Bm) _
  unfold fb_Parser_takeBlock f_Parser_takeBlock_30 f_Parser_takeBlock_31 fb_M_block
  rw [if_pos ⟨(by first | decide | omega), k3⟩, C_takeOpening hX (by decide) hdd.2, L_opening hg hM (by decide) (by first | decide | omega), PS_sg hE hS, hM.1]
  have lpB : ∀ {F : zF} {B : zB}, bad F → f_M_block_11 om Km Km j F B = some (0, F, B) := by
    intro F B hb
    obtain ⟨m, rfl⟩ : ∃ y, Km = y + 1 := ⟨Km - 1, (by first | decide | omega)⟩
    unfold f_M_block_11 f_M_block_34
    rw [L_goodB hb]
    simp only [zb_s]
    rw [if_pos (by decide), if_pos trivial, L_closingB hb]
    rfl
  by_cases z : sgm Bm j 123 = 0
  · have er := PS_err2 hE hS
    rw [if_pos z, if_pos z]
    simp only [zb_s]
    rw [if_pos (by decide), if_pos trivial, if_pos (by decide), lpB er.2]
    exact zP_s ⟨fF_e fF_r, fG_e fG_r, fK_r, fH_r, Or.inr ⟨rfl, er⟩⟩
  · have z' := Decidable.not_not.mp (mt sgm_0.mpr z)
    rw [if_neg z, if_neg z]
    by_cases d8 : F 3 0 18 = 8
    · have er := PS_err (s := 3) (s' := 3) hE hS (by rw [if_neg (by first | decide | omega)]) (by decide)
      rw [if_pos d8, if_pos (by first | decide | omega)]
      simp only [zb_s]
      rw [if_pos (by decide), if_pos trivial, if_pos (by decide), lpB er.2]
      exact zP_s ⟨fF_e fF_r, fG_e fG_r, fK_r, fH_r, Or.inr ⟨rfl, er⟩⟩
    · rw [if_neg d8, if_neg (by first | decide | omega)]
      simp only [zb_s]
      obtain ⟨d', rfl⟩ : ∃ y, d = y + 1 := ⟨d - 1, (by first | decide | omega)⟩
      have hS1 := PS_step hE (PS_d (d := F 3 0 18 + 1) hS (by first | decide | omega) hpw) (by first | decide | omega)
      have e19 : Fm 14 0 19 = F 3 0 18 := hdd.1.symm
      rw [if_pos (show r32 1 by decide), if_neg (show ¬ (1 : Int) = 0 by decide), ho, e19]
      unfold fb_Parser_takeMusic
      have a14 : (advF (zup3 F 3 0 18 (F 3 0 18 + 1)) B) 3 0 14 = F 3 0 14 := by rw [advF_o (by decide)]; simp [zup3_v]
      have a15 : (advF (zup3 F 3 0 18 (F 3 0 18 + 1)) B) 3 0 15 = F 3 0 15 := by rw [advF_o (by decide)]; simp [zup3_v]
      have a18 : (advF (zup3 F 3 0 18 (F 3 0 18 + 1)) B) 3 0 18 = F 3 0 18 + 1 := by rw [advF_o (by decide)]; simp [zup3_v]
      have gF : fF F (advF (zup3 F 3 0 18 (F 3 0 18 + 1)) B) := fF_a (fF_u fF_r (by decide))
      have gG : fG Fm (zup3 (zup3 Fm 14 0 19 (F 3 0 18 + 1)) 14 0 16 (j + 1)) := fG_u (fG_u fG_r (by decide) (by decide)) (by decide) (by decide)
      have hLT1 := LT_k (k0 := 0) (x0 := 0) (lo := 0) (pl := 0) (fr := 0) (j := 0) hLT gF gG fK_r (by decide) (fJ_H fH_r (Int.le_refl _))
      refine zP_m (P_music (o := o') (lp := fun n F B => f_M_block_11 om Km n j F B) (c := 125) (fr := j) (hI d' rfl) hB (Or.inl rfl) jj.1 ?_ ?_ ?_ (q := 3001) (m := K.1) (m' := Km) (i := 0) (last := -1) (par := x) (j := j + 1) (x0 := x) (k0 := 4) (by first | decide | omega) (by first | decide | omega) (by first | decide | omega) (by first | decide | omega) (by first | decide | omega) (by first | decide | omega) (Or.inl ⟨rfl, rfl, rfl⟩) x0 (by first | decide | omega) (by first | decide | omega) (by first | decide | omega) hE hS1 (by first | decide | omega) (by first | decide | omega) hLT1 hcell) (fun r F' B' r' Fm' Bm' hh => ?_)
      · intro n F B
        rfl
      · intro F B
        rfl
      · intro F B hX
        show (if r32 1 then (if (1 : Int) = 0 then _ else zbind (f_Parser_takeClosing K 0 125 F B) _) else none) = _
        rw [if_pos (by decide), if_neg (by decide), C_takeClosing hX (by decide)]
        by_cases w : sgn F 125 = 0
        · rw [if_pos w]; rfl
        · rw [if_neg w]; rfl
      · obtain ⟨g1, g2, g3, g4, g5⟩ := hh
        rw [a14, a15] at g3
        refine ⟨fF_t gF g1, fG_t gG g2, g3, fJ_fH g4 (by first | decide | omega), ?_⟩
        rcases g5 with ⟨rfl, j', n, v1, v2, v3, v4, v5, v6, v7⟩ | er
        · rw [a14, a15] at v7
          exact Or.inl ⟨rfl, j', n, (by first | decide | omega), v2, v3, (by first | decide | omega), (by first | decide | omega), (by first | decide | omega), v7, (by first | decide | omega)⟩
        · exact Or.inr er
theorem nm_of {K : zK} {Km : Nat} {N j : Int} {F : zF} {B : zB} {Fm : zF} {Bm : zB} (hE : EV K Km N B Bm) (hS : PS N j F B Fm Bm) (k : Bm 14 0 7 j = 3) : F 10 0 0 = 3 ∧ F 10 0 2 = Bm 14 0 9 j := by
  have tk := hE.1.2.2 j hS.2.1.1.1 hS.2.1.1.2
  exact ⟨hS.2.1.2.1.trans k, hS.2.1.2.2.2.1.trans (tk.2.2.2.2.2.1 k).1⟩
/-- a number is taken, or refused, alike -/
theorem P_num {K : zK} {Km : Nat} {N j lo hi : Int} {F : zF} {B : zB} {Fm : zF} {Bm : zB} (hE : EV K Km N B Bm) (hS : PS N j F B Fm Bm) (hl : r32 lo) (hh : r32 hi) : (Bm 14 0 7 j = 3 ∧ lo ≤ Bm 14 0 9 j ∧ Bm 14 0 9 j ≤ hi ∧ f_Parser_takeNumber K 0 lo hi 0 F B = some (1, advF (zup3 F 3 0 19 (Bm 14 0 9 j)) B, B) ∧ f_M_number Km lo hi 0 Fm Bm = some (Bm 14 0 9 j, zup3 Fm 14 0 16 (j + 1), Bm) ∧ PS N (j + 1) (advF (zup3 F 3 0 19 (Bm 14 0 9 j)) B) B (zup3 Fm 14 0 16 (j + 1)) Bm) ∨ (∃ s s' v, f_Parser_takeNumber K 0 lo hi 0 F B = some (0, refF F s, B) ∧ f_M_number Km lo hi 0 Fm Bm = some (v, errM Fm Bm s', Bm) ∧ ERR (refF F s) (errM Fm Bm s')) := by
  have hg := hS.2.2.2.1
  have cn := C_takeNumber (lo := lo) (hi := hi) (pw := 0) (PS_CX hE hS) hl hh (Or.inl rfl)
  have mn := L_number (K := Km) (lo := lo) (hi := hi) (pw := 0) hg (PS_MX hE hS) hl hh (Or.inl rfl)
  by_cases k : Bm 14 0 7 j = 3
  · obtain ⟨e0, e2⟩ := nm_of hE hS k
    by_cases n : nOK (Bm 14 0 9 j) lo hi 0
    · left
      have c := cn.1 e0 (by rw [e2]; exact n)
      rw [e2] at c
      exact ⟨k, n.1, n.2.1, c, mn.1 k n, PS_step hE (PS_u (k := 19) hS (by decide)) (by first | decide | omega)⟩
    · right
      exact ⟨5, 5, _, cn.2.1 e0 (by rw [e2]; exact n), mn.2.1 k n, PS_err hE hS (by rw [if_neg (by first | decide | omega)]) (by decide)⟩
  · right
    have e0 := hS.2.1.2.1
    exact ⟨2, wr Bm j, 0, cn.2.2 (by rw [e0]; exact k), mn.2.2 k, PS_err2 hE hS⟩
/-- a sign is taken, or refused, alike -/
theorem P_sig {K : zK} {Km : Nat} {N j c : Int} {F : zF} {B : zB} {Fm : zF} {Bm : zB} (hE : EV K Km N B Bm) (hS : PS N j F B Fm Bm) (hc : r32 c) : (sgAt Bm j c ∧ f_Parser_takeSign K 0 c F B = some (1, advF F B, B) ∧ f_M_need Km c Fm Bm = some (0, zup3 Fm 14 0 16 (j + 1), Bm) ∧ PS N (j + 1) (advF F B) B (zup3 Fm 14 0 16 (j + 1)) Bm) ∨ (f_Parser_takeSign K 0 c F B = some (0, refF F 2, B) ∧ f_M_need Km c Fm Bm = some (0, errM Fm Bm (wr Bm j), Bm) ∧ ERR (refF F 2) (errM Fm Bm (wr Bm j))) := by
  have hg := hS.2.2.2.1
  rw [C_takeSign (PS_CX hE hS) hc, L_need hg (PS_MX hE hS) hc, PS_sg hE hS]
  by_cases z : sgm Bm j c = 0
  · right
    rw [if_pos z, if_pos z]
    exact ⟨rfl, rfl, PS_err2 hE hS⟩
  · left
    have z' := Decidable.not_not.mp (mt sgm_0.mpr z)
    rw [if_neg z, if_neg z]
    exact ⟨z', rfl, rfl, PS_step hE hS (by first | decide | omega)⟩
theorem P_frac {K : zK} {Km : Nat} {N j x lo hi : Int} {F : zF} {B : zB} {Fm : zF} {Bm : zB} {kC kM : Int → zF → zB → zO} {Q : Int → zF → zB → Int → zF → zB → Prop} (hx : 0 ≤ x ∧ x < 3000) (hE : EV K Km N B Bm) (hS : PS N j F B Fm Bm) (hl : r32 lo) (hh : r32 hi) (ok : ∀ F' B' Fm' r', fF F F' → fG Fm Fm' → fX [2, 3] x (F 3 0 15) B B' → PS N (j + 3) F' B' Fm' Bm → nmAt Bm j (B' 3 0 2 x) lo hi → nmAt Bm (j + 2) (B' 3 0 3 x) 1 hi → F' 3 0 14 = F 3 0 14 → F' 3 0 15 = F 3 0 15 → F' 3 0 18 = F 3 0 18 → zP (kC 1 F' B') (kM r' Fm' Bm) Q) (no : ∀ F' B' Fm' r', fF F F' → fG Fm Fm' → fX [2, 3] x (F 3 0 15) B B' → ERR F' Fm' → zP (kC 0 F' B') (kM r' Fm' Bm) Q) : zP (zbind (f_Parser_takeFraction K 0 x lo hi F B) kC) (zbind (f_M_number Km lo hi 0 Fm Bm) (fun _ F2 B2 => zbind (f_M_need Km 47 F2 B2) (fun _ F3 B3 => zbind (f_M_number Km 1 hi 0 F3 B3) kM))) Q := by
  have k3 := hE.2.2.2.1
  unfold f_Parser_takeFraction f_Parser_takeFraction_41
  rw [if_pos ⟨(by first | decide | omega), k3⟩]
  rcases P_num hE hS hl hh with ⟨n1, n2, n3, c1, m1, hS1⟩ | ⟨s, s', v, c1, m1, er⟩
  · rw [c1, m1]
    simp only [zb_s]
    rw [if_pos (show r32 1 by decide), if_neg (show ¬ (1 : Int) = 0 by decide), if_pos hx]
    have e19 : (advF (zup3 F 3 0 19 (Bm 14 0 9 j)) B) 3 0 19 = Bm 14 0 9 j := by rw [advF_o (by decide)]; simp [zup3_v]
    rw [e19]
    have hX1 : fX [2, 3] x (F 3 0 15) B (zup4 B 3 0 2 x (Bm 14 0 9 j)) := fX_u fX_r (Or.inl ⟨by decide, rfl⟩)
    have hB1 := fX_B (lo := x) hX1 (by decide) (Int.le_refl _)
    have hE1 := EV_f hE hB1 (fH_r (fr := 0))
    have hS1' := PS_f hS1 hB1 (fH_r (fr := 0))
    rcases P_sig hE1 hS1' (c := 47) (by decide) with ⟨_, c2, m2, hS2⟩ | ⟨c2, m2, er⟩
    · rw [c2, m2]
      simp only [zb_s]
      rw [if_pos (show r32 1 by decide), if_neg (show ¬ (1 : Int) = 0 by decide)]
      rcases P_num hE1 hS2 (lo := 1) (hi := hi) (by decide) hh with ⟨p1, p2, p3, c3, m3, hS3⟩ | ⟨s, s', v, c3, m3, er⟩
      · rw [c3, m3]
        simp only [zb_s]
        rw [if_pos (show r32 1 by decide), if_neg (show ¬ (1 : Int) = 0 by decide)]
        have e19' : (advF (zup3 (advF (advF (zup3 F 3 0 19 (Bm 14 0 9 j)) B) (zup4 B 3 0 2 x (Bm 14 0 9 j))) 3 0 19 (Bm 14 0 9 (j + 1 + 1))) (zup4 B 3 0 2 x (Bm 14 0 9 j))) 3 0 19 = Bm 14 0 9 (j + 1 + 1) := by rw [advF_o (by decide)]; simp [zup3_v]
        rw [e19']
        have hX2 : fX [2, 3] x (F 3 0 15) B (zup4 (zup4 B 3 0 2 x (Bm 14 0 9 j)) 3 0 3 x (Bm 14 0 9 (j + 1 + 1))) := fX_u hX1 (Or.inl ⟨by decide, rfl⟩)
        have hX3 : fX [2, 3] x (F 3 0 15) (zup4 B 3 0 2 x (Bm 14 0 9 j)) (zup4 (zup4 B 3 0 2 x (Bm 14 0 9 j)) 3 0 3 x (Bm 14 0 9 (j + 1 + 1))) := fX_u fX_r (Or.inl ⟨by decide, rfl⟩)
        refine ok _ _ _ _ (fF_a (fF_u (fF_a (fF_a (fF_u fF_r (by decide)))) (by decide))) (fG_u (fG_u (fG_u fG_r (by decide) (by decide)) (by decide) (by decide)) (by decide) (by decide)) hX2 ?_ ?_ ?_ ?_ ?_ ?_
        · have := PS_f hS3 (fX_B (lo := x) hX3 (by decide) (Int.le_refl _)) (fH_r (fr := 0))
          rw [show j + 3 = j + 1 + 1 + 1 by omega]; exact this
        · refine ⟨n1, ?_, ?_, ?_⟩ <;> simp [zup4_v] <;> assumption
        · rw [show j + 2 = j + 1 + 1 by omega]
          refine ⟨p1, ?_, ?_, ?_⟩ <;> simp [zup4_v] <;> assumption
        · simp [advF_o, zup3_v]
        · simp [advF_o, zup3_v]
        · simp [advF_o, zup3_v]
      · rw [c3, m3]
        simp only [zb_s]
        rw [if_pos (show r32 0 by decide), if_pos trivial]
        exact no _ _ _ _ (fF_e (fF_a (fF_a (fF_u fF_r (by decide))))) (fG_e (fG_u (fG_u fG_r (by decide) (by decide)) (by decide) (by decide))) hX1 er
    · rw [c2, m2]
      simp only [zb_s]
      rw [if_pos (show r32 0 by decide), if_pos trivial, L_numberB er.2]
      simp only [zb_s]
      exact no _ _ _ _ (fF_e (fF_a (fF_u fF_r (by decide)))) (fG_e (fG_u fG_r (by decide) (by decide))) hX1 er
  · rw [c1, m1]
    simp only [zb_s]
    rw [if_pos (show r32 0 by decide), if_pos trivial, L_needB er.2]
    simp only [zb_s]
    rw [L_numberB er.2]
    simp only [zb_s]
    exact no _ _ _ _ (fF_e fF_r) (fG_e fG_r) fX_r er
end
end
section
section
/-! ===== items with blocks: what both sides do, word by word ===== -/
theorem ir0 {a b : zO} : (if r32 0 then a else b) = a := if_pos (by decide)
theorem ir1 {a b : zO} : (if r32 1 then a else b) = a := if_pos (by decide)
theorem i00 {a b : zO} : (if (0 : Int) = 0 then a else b) = a := if_pos rfl
theorem i10 {a b : zO} : (if (1 : Int) = 0 then a else b) = b := if_neg (by decide)
theorem zor01 {r : Int} {a b : zO} (h : r = 0 ∨ r = 1) : (if r = 0 ∨ r = 1 then a else b) = a := if_pos h
/-- the reference at a word: its row of tests -/
theorem L_wd {Km : Nat} {Fm : zF} {Bm : zB} {j w c : Int} (hM : MX Fm Bm j) (h : wdAt Bm j w) (hc : r64 c) : f_M_isWord Km c Fm Bm = some (if w = c then 1 else 0, Fm, Bm) := by
  rw [L_isWord hM hc]
  unfold wdm
  rw [h.1, h.2]
  by_cases e : w = c
  · rw [if_pos ⟨rfl, e⟩, if_pos e]
  · rw [if_neg (fun z => e z.2), if_neg e]
theorem L_itemW {om om' : oT_P} {Km : Nat} {Fm : zF} {Bm : zB} {j w : Int} (hM : MX Fm Bm j) (h : wdAt Bm j w) (ho : ∀ F B, om.2.2.2 F B = fb_M_itemOfWord om' Km F B) : fb_M_item om Km Fm Bm = zbind (fb_M_itemOfWord om' Km Fm Bm) (fun _ F20 B20 => f_M_item_202 om Km j F20 B20) := by
  have s : ∀ c, r32 c → f_M_isSign Km c Fm Bm = some (0, Fm, Bm) := by
    intro c hc
    rw [L_isSign hM hc]
    rw [show sgm Bm j c = 0 from sgm_0.mpr (fun z => by have := z.1; have := h.1; omega)]
  have h4 := h.1
  have h16 := hM.1
  have h0 := hM.2.1
  unfold fb_M_item
  rw [h16, if_pos (by first | decide | omega), if_pos (by first | decide | omega), if_neg (by first | decide | omega)]
  simp only [s 60 (by decide), s 124 (by decide), s 33 (by decide), s 91 (by decide), zb_s, ir0, if_true, if_false]
  rw [h16, if_pos (by first | decide | omega), if_pos (by first | decide | omega), if_pos h4, ho]
theorem C_itemB {o : oT_CP} {K : zK} {F : zF} {B : zB} {x : Int} (hX : CX K F B) (hx : 0 ≤ x ∧ x < 3000) (hk : B 3 0 0 x = 8) : fb_Parser_takeItem o K 0 x F B = zbind (o.1 0 x (advF F B) B) (fun r F B => if (r = 0 ∨ r = 1) then some (r, F, B) else none) := by
  unfold fb_Parser_takeItem
  rw [if_pos ⟨(by first | decide | omega), hX.1⟩, if_pos hx, hk, hX.2.2.1, if_pos (by decide), if_neg (by decide), if_neg (by decide), if_pos ⟨(by first | decide | omega), hX.2.1⟩, C_adv hX]
  simp only [zb_s, hk]
  rfl
theorem C_itemM {o : oT_CP} {K : zK} {F : zF} {B : zB} {x : Int} (hX : CX K F B) (hx : 0 ≤ x ∧ x < 3000) (hk : B 3 0 0 x = 6) : fb_Parser_takeItem o K 0 x F B = zbind (o.2.2.2.2.2.2.1 0 x (advF F B) B) (fun r F B => if (r = 0 ∨ r = 1) then some (r, F, B) else none) := by
  unfold fb_Parser_takeItem
  rw [if_pos ⟨(by first | decide | omega), hX.1⟩, if_pos hx, hk, hX.2.2.1, if_pos (by decide), if_neg (by decide), if_neg (by decide), if_pos ⟨(by first | decide | omega), hX.2.1⟩, C_adv hX]
  simp only [zb_s, hk]
  rfl
theorem C_itemI {o : oT_CP} {K : zK} {F : zF} {B : zB} {x : Int} (hX : CX K F B) (hx : 0 ≤ x ∧ x < 3000) (hk : B 3 0 0 x = 7) : fb_Parser_takeItem o K 0 x F B = zbind (o.2.2.2.2.2.2.2 0 x (advF F B) B) (fun r F B => if (r = 0 ∨ r = 1) then some (r, F, B) else none) := by
  unfold fb_Parser_takeItem
  rw [if_pos ⟨(by first | decide | omega), hX.1⟩, if_pos hx, hk, hX.2.2.1, if_pos (by decide), if_neg (by decide), if_neg (by decide), if_pos ⟨(by first | decide | omega), hX.2.1⟩, C_adv hX]
  simp only [zb_s, hk]
  rfl
theorem C_itemR {o : oT_CP} {K : zK} {F : zF} {B : zB} {x : Int} (hX : CX K F B) (hx : 0 ≤ x ∧ x < 3000) (hk : B 3 0 0 x = 4) : fb_Parser_takeItem o K 0 x F B = zbind (o.2.2.2.2.1 0 x (advF F B) B) (fun r F B => if (r = 0 ∨ r = 1) then some (r, F, B) else none) := by
  unfold fb_Parser_takeItem
  rw [if_pos ⟨(by first | decide | omega), hX.1⟩, if_pos hx, hk, hX.2.2.1, if_pos (by decide), if_neg (by decide), if_neg (by decide), if_pos ⟨(by first | decide | omega), hX.2.1⟩, C_adv hX]
  simp only [zb_s, hk]
  rfl
theorem C_itemU {o : oT_CP} {K : zK} {F : zF} {B : zB} {x : Int} (hX : CX K F B) (hx : 0 ≤ x ∧ x < 3000) (hk : B 3 0 0 x = 5) : fb_Parser_takeItem o K 0 x F B = zbind (f_Parser_takeUse K 0 x (advF F B) B) (fun r F B => if (r = 0 ∨ r = 1) then some (r, F, B) else none) := by
  unfold fb_Parser_takeItem
  rw [if_pos ⟨(by first | decide | omega), hX.1⟩, if_pos hx, hk, hX.2.2.1, if_pos (by decide), if_neg (by decide), if_neg (by decide), if_pos ⟨(by first | decide | omega), hX.2.1⟩, C_adv hX]
  simp only [zb_s, hk]
  rfl
theorem C_itemL {o : oT_CP} {K : zK} {F : zF} {B : zB} {x : Int} (hX : CX K F B) (hx : 0 ≤ x ∧ x < 3000) (hk : B 3 0 0 x = 2) : fb_Parser_takeItem o K 0 x F B = zbind (f_Parser_takeLoud K 0 x (advF F B) B) (fun r F B => if (r = 0 ∨ r = 1) then some (r, F, B) else none) := by
  unfold fb_Parser_takeItem
  rw [if_pos ⟨(by first | decide | omega), hX.1⟩, if_pos hx, hk, hX.2.2.1, if_pos (by decide), if_neg (by decide), if_neg (by decide), if_pos ⟨(by first | decide | omega), hX.2.1⟩, C_adv hX]
  simp only [zb_s, hk]
  rfl
theorem C_item1 {o : oT_CP} {K : zK} {F : zF} {B : zB} {x : Int} (hX : CX K F B) (hx : 0 ≤ x ∧ x < 3000) (hk : B 3 0 0 x = 1) : fb_Parser_takeItem o K 0 x F B = some (1, advF F B, B) := by
  unfold fb_Parser_takeItem
  rw [if_pos ⟨(by first | decide | omega), hX.1⟩, if_pos hx, hk, hX.2.2.1, if_pos (by decide), if_neg (by decide), if_neg (by decide), if_pos ⟨(by first | decide | omega), hX.2.1⟩, C_adv hX]
  simp only [zb_s, hk]
  rfl
theorem C_itemS {o : oT_CP} {K : zK} {F : zF} {B : zB} {x : Int} (hX : CX K F B) (hx : 0 ≤ x ∧ x < 3000) (hk : B 3 0 0 x = 9) : fb_Parser_takeItem o K 0 x F B = zbind (f_Parser_takeFraction K 0 x 1 8 (advF F B) B) (fun r29 F29 B29 => if r32 r29 then (if r29 = 0 then some (0, F29, B29) else zbind (o.1 0 x F29 B29) (fun r33 F33 B33 => if r32 r33 then (if r33 = 0 then some (0, F33, B33) else some (1, F33, B33)) else none)) else none) := by
  unfold fb_Parser_takeItem
  rw [if_pos ⟨(by first | decide | omega), hX.1⟩, if_pos hx, hk, hX.2.2.1, if_pos (by decide), if_neg (by decide), if_neg (by decide), if_pos ⟨(by first | decide | omega), hX.2.1⟩, C_adv hX]
  simp only [zb_s, hk]
  rfl
theorem C_itemE {o : oT_CP} {K : zK} {F : zF} {B : zB} {x : Int} (hX : CX K F B) (hx : 0 ≤ x ∧ x < 3000) (hk : B 3 0 0 x = 0) : fb_Parser_takeItem o K 0 x F B = zbind (f_Parser_takeEvent K 0 x F B) (fun r F B => if (r = 0 ∨ r = 1) then some (r, F, B) else none) := by
  unfold fb_Parser_takeItem
  rw [if_pos ⟨(by first | decide | omega), hX.1⟩, if_pos hx, hk, if_pos (by decide), if_pos rfl]
theorem C_itemT {o : oT_CP} {K : zK} {F : zF} {B : zB} {x : Int} (hX : CX K F B) (hx : 0 ≤ x ∧ x < 3000) (hk : B 3 0 0 x = 3) : fb_Parser_takeItem o K 0 x F B = zbind (o.2.2.2.1 0 x F B) (fun r F B => if (r = 0 ∨ r = 1) then some (r, F, B) else none) := by
  unfold fb_Parser_takeItem
  rw [if_pos ⟨(by first | decide | omega), hX.1⟩, if_pos hx, hk, if_pos (by decide), if_neg (by decide), if_pos rfl]
/-- a block of the item x, as later worlds see it -/
theorem BK_of {L : Int} {d' n : Nat} {x a j' lo hi pl ph hi' pl' ph' i e' : Int} {B' Bm' Bx By : zB} (ab : agB L x hi' pl' ph' x B' Bx) (am : agM L i e' Bm' By) (hs : SLR L d' n (B' 3 0 4 x) (a + 1) (j' - 1) lo hi pl ph B' Bm') (h30 : Bm' 14 0 30 a = j' - 1) (h1 : x < lo) (h2 : hi ≤ hi') (h3 : pl' ≤ pl) (h4 : ph ≤ ph') (h5 : i ≤ a) (h6 : j' ≤ e') (h7 : a + 2 ≤ j') (h8 : lo ≤ hi) (h9 : j' ≤ 3001) : BKf (IRd L d') Bx By x a := by
  have e30 : By 14 0 30 a = j' - 1 := by rw [am.1 30 a (by decide) (by decide) h5 (by first | decide | omega)]; exact h30
  have e4 : Bx 3 0 4 x = B' 3 0 4 x := ab.1 4 x (by decide) (Int.le_refl _) (by first | decide | omega) (fun z => absurd z.1 (by decide))
  refine ⟨(by first | decide | omega), (by first | decide | omega), n, ?_⟩
  rw [e30, e4]
  exact hs Bx By (agB_m ab (by first | decide | omega) h2 h3 h4 (Or.inr (Or.inl (by first | decide | omega)))) (agM_m am (by first | decide | omega) (by first | decide | omega))
/-- behind a block the item ends: its outcome, from the block's -/
theorem IPO_B {L : Int} {d : Nat} {N j x jb r : Int} {F F0 : zF} {B B0 : zB} {Fm Fm0 : zF} {Bm : zB} {F' : zF} {B' : zB} {Fm' : zF} {Bm' : zB} (h : BPO L d N jb x F0 B0 Fm0 Bm r F' B' Fm' Bm') (hN : N ≤ 3000) (hj : j < jb) (hx : x + 1 = F 3 0 14) (gF : fF F F0) (gG : fG Fm Fm0) (gB : fB x (F 3 0 15) B B0) (e14 : F0 3 0 14 = F 3 0 14) (e15 : F0 3 0 15 = F 3 0 15) (e18 : F0 3 0 18 = F 3 0 18) (h5 : B0 3 0 5 x = -1) (hI : ∀ j' n Bx By, jb + 2 ≤ j' → agB L x (F' 3 0 14) (F 3 0 15) (F' 3 0 15) x B' Bx → agM L j j' (zup4 Bm' 14 0 31 j j') By → BKf (IRd L (d - 1)) Bx By x jb → SLR L (d - 1) n (B' 3 0 4 x) (jb + 1) (j' - 1) (F 3 0 14) (F' 3 0 14) (F 3 0 15) (F' 3 0 15) B' Bm' → Bm' 14 0 30 jb = j' - 1 → By 14 0 31 j = j' → (∀ k, k ≤ 7 → k ≠ 5 → Bx 3 0 k x = B' 3 0 k x) → (∀ k, 7 ≤ k → k ≤ 11 → By 14 0 k = Bm 14 0 k) → (∀ k, k ≤ 7 → k ≠ 4 → B' 3 0 k x = B0 3 0 k x) → IRn (IRd L (d - 1)) Bx By x j) : r = 0 ∨ r = 1 → IPO L d N j x F B Fm Bm r F' B' Fm' (zup4 Bm' 14 0 31 j (Fm' 14 0 16)) := by
  intro hr
  obtain ⟨g1, g2, g3, g4, g5⟩ := h
  have hH : fH j Bm' (zup4 Bm' 14 0 31 j (Fm' 14 0 16)) := fH_u fH_r (by decide) (by decide) (Int.le_refl _)
  rw [e14, e15] at g3
  have gK : fB x (F 3 0 15) B B' := fun c i k y a b => by
    rw [g3 c i k y (fun z => a ⟨z.1, z.2.1, z.2.2.1, by have := z.2.2.2; omega⟩) b (fun z => a ⟨z.1, z.2.1, by have := z.2.2.1; omega, by have := z.2.2.2; omega⟩)]
    exact gB c i k y a b
  refine ⟨fF_t gF g1, fG_t gG g2, gK, fH_t (fH_m g4 (by first | decide | omega)) hH, ?_⟩
  rcases g5 with ⟨rfl, j', n, v1, v2, v3, v4, v5, v6, v7, v8⟩ | er
  · left
    refine ⟨rfl, Or.inl ⟨j', (by first | decide | omega), PS_f (lo := 0) (pl := 0) v2 fB_r hH, ?_, (by first | decide | omega), (by first | decide | omega), (by first | decide | omega), ?_, ?_⟩⟩
    · simp [zup4_v]; exact v2.2.2.1
    · rw [g3 3 0 5 x (fun z => by have := z.2.2.2; omega) (fun z => absurd z.2.2.1 (by decide)) (fun z => absurd z.2.2.1 (by decide))]; exact h5
    · intro Bx By ab am
      rw [v2.2.2.1] at am
      rw [e14, e15] at v7
      have w30 : (zup4 Bm' 14 0 31 j j') 14 0 30 jb = j' - 1 := by simp [zup4_v]; exact v3
      have hs : SLR L (d - 1) n (B' 3 0 4 x) (jb + 1) (j' - 1) (F 3 0 14) (F' 3 0 14) (F 3 0 15) (F' 3 0 15) B' (zup4 Bm' 14 0 31 j j') := SLR_t v7 agB_r ⟨fun k y p q a b => by rw [zup4_v, if_neg (fun z => by have := z.2.2.2; omega)], fun k p q => by funext y; rw [zup4_v, if_neg (fun z => by have := z.2.2.1; omega)], fun q p a => by rw [zup4_v, if_neg (fun z => absurd z.2.2.1 (by decide))]⟩
      have bk := BK_of ab am hs w30 (by first | decide | omega) (Int.le_refl _) (Int.le_refl _) (Int.le_refl _) (by first | decide | omega) (Int.le_refl _) (by first | decide | omega) (by first | decide | omega) (by have := v2.2.1.1.2; omega)
      have e31 : By 14 0 31 j = j' := by rw [am.1 31 j (by decide) (by decide) (Int.le_refl _) (by first | decide | omega)]; simp [zup4_v]
      have w : ∀ k, 7 ≤ k → k ≤ 11 → By 14 0 k = Bm 14 0 k := fun k p q => by
        rw [am.2.1 k p q]
        funext y
        rw [zup4_v, if_neg (fun z => by have := z.2.2.1; omega), fH_k g4 k (by first | decide | omega)]
      have res := hI j' n Bx By v1 ab am bk v7 v3 e31 (fun k p q => ab.1 k x p (Int.le_refl _) (by first | decide | omega) (fun z => q z.1)) w (fun k p q => g3 3 0 k x (fun z => by have := z.2.2.2; omega) (fun z => by have := z.2.2.1; omega) (fun z => q z.2.2.1))
      obtain ⟨d', rfl⟩ : ∃ y, d = y + 1 := ⟨d - 1, (by first | decide | omega)⟩
      exact Or.inr res
  · exact Or.inr er
end
end
section
section
/-! ===== back, slow, mirror, move, on both sides ===== -/
theorem IRn_at {R : zB → zB → Int → Int → Prop} {B0 B' Bx Bm By : zB} {x j s : Int} (hF : fresh B0 Bm x j s) (gx : ∀ k, k ≤ 7 → k ≠ 5 → Bx 3 0 k x = B' 3 0 k x) (w : ∀ k, 7 ≤ k → k ≤ 11 → By 14 0 k = Bm 14 0 k) (g0 : ∀ k, k ≤ 1 → B' 3 0 k x = B0 3 0 k x) : Bx 3 0 1 x = By 14 0 8 j ∧ Bx 3 0 0 x = s := by
  rw [gx 1 (by decide) (by decide), gx 0 (by decide) (by decide), g0 1 (by decide), g0 0 (by decide), w 8 (by decide) (by decide)]
  exact ⟨hF.2.1, hF.1⟩
theorem wdAt_c {Bm By : zB} {j v : Int} (h : wdAt Bm j v) (w : ∀ k, 7 ≤ k → k ≤ 11 → By 14 0 k = Bm 14 0 k) : wdAt By j v := by
  unfold wdAt at *
  rw [w 7 (by decide) (by decide), w 11 (by decide) (by decide)]; exact h
theorem sgAt_c {Bm By : zB} {j v : Int} (h : sgAt Bm j v) (w : ∀ k, 7 ≤ k → k ≤ 11 → By 14 0 k = Bm 14 0 k) : sgAt By j v := by
  unfold sgAt at *
  rw [w 7 (by decide) (by decide), w 9 (by decide) (by decide)]; exact h
theorem nmAt_c {Bm By : zB} {j v lo hi : Int} (h : nmAt Bm j v lo hi) (w : ∀ k, 7 ≤ k → k ≤ 11 → By 14 0 k = Bm 14 0 k) : nmAt By j v lo hi := by
  unfold nmAt at *
  rw [w 7 (by decide) (by decide), w 9 (by decide) (by decide)]; exact h
theorem mvV_c {Bm By : zB} {j : Int} (w : ∀ k, 7 ≤ k → k ≤ 11 → By 14 0 k = Bm 14 0 k) : mvV By j = mvV Bm j := by
  unfold mvV
  rw [w 9 (by decide) (by decide), w 10 (by decide) (by decide)]
theorem BPO_r {L : Int} {d : Nat} {N j x r : Int} {F : zF} {B : zB} {Fm : zF} {Bm : zB} {F' : zF} {B' : zB} {Fm' : zF} {Bm' : zB} (h : BPO L d N j x F B Fm Bm r F' B' Fm' Bm') : r = 0 ∨ r = 1 := by
  rcases h.2.2.2.2 with z | z
  · exact Or.inr z.1
  · exact Or.inl z.1
theorem P_back {L : Int} {d : Nat} {K : zK} {Km : Nat} {N j x : Int} {o : oT_CP} {om om' : oT_P} {F : zF} {B : zB} {Fm : zF} {Bm : zB} (hx : 0 ≤ x ∧ x < 3000) (hxi : x + 1 = F 3 0 14) (hij : F 3 0 14 ≤ j + 1) (hE : EV K Km N B Bm) (hS : PS N j F B Fm Bm) (hd : F 3 0 18 + d = 8) (hdp : 1 ≤ F 3 0 18) (hLT : LT L F B Fm Bm) (hF : fresh B Bm x j 8) (wd : wdAt Bm j 1650549611) (ho : ∀ F B, om.2.2.2 F B = fb_M_itemOfWord om' Km F B) (hBk : BlkSim L K Km N d o.1 om'.1) : zP (fb_Parser_takeItem o K 0 x F B) (fb_M_item om Km Fm Bm) (fun r F' B' _ Fm' Bm' => IPO L d N j x F B Fm Bm r F' B' Fm' Bm') := by
  have hM := PS_MX hE hS
  have h4 := wd.1
  have jj := hS.2.1.1
  have nn := hE.1.2.1
  have t : ∀ c, r64 c → f_M_isWord Km c Fm Bm = some (if 1650549611 = c then 1 else 0, Fm, Bm) := fun c hc => L_wd hM wd hc
  have hS1 := PS_step hE hS (by first | decide | omega)
  have a14 : (advF F B) 3 0 14 = F 3 0 14 := advF_o (by decide)
  have a15 : (advF F B) 3 0 15 = F 3 0 15 := advF_o (by decide)
  have a18 : (advF F B) 3 0 18 = F 3 0 18 := advF_o (by decide)
  have gF : fF F (advF F B) := fF_a fF_r
  have gG : fG Fm (zup3 Fm 14 0 16 (j + 1)) := fG_u fG_r (by decide) (by decide)
  have hLT1 := LT_k (k0 := 0) (x0 := 0) (lo := 0) (pl := 0) (fr := 0) (j := 0) hLT gF gG fK_r (by decide) (fJ_H fH_r (Int.le_refl _))
  rw [C_itemB (PS_CX hE hS) hx hF.1, L_itemW hM wd ho]
  unfold fb_M_itemOfWord f_M_itemOfWord_389
  simp only [t 114 (by decide), t 125780002955636 (by decide), t 7697253 (by decide), t 1836021349 (by decide), t 120299659095922 (by decide), t 1650549611 (by decide), zb_s, zb_a, ir0, ir1, if_true, if_false, Int.reduceEq, hM.1]
  refine zP_c (hBk (x := x) (j := j + 1) hx.1 (by first | decide | omega) (by first | decide | omega) hE hS1 (by first | decide | omega) (PS_pw hS1 (by first | decide | omega)) hLT1 hF.2.2.2.2.1) (fun r F' B' r' Fm' Bm' hh => ?_)
  have hr := BPO_r hh
  rw [L_202 (by first | decide | omega), if_pos hr]
  refine zP_s (IPO_B hh hE.1.2.1 (by first | decide | omega) hxi gF gG fB_r a14 a15 a18 hF.2.2.2.2.2.1 ?_ hr)
  intro j' n Bx By _ _ _ bk _ _ _ gx w g0
  obtain ⟨p1, p0⟩ := IRn_at hF gx w (fun k hk => g0 k (by first | decide | omega) (by first | decide | omega)) (R := IRd L (d - 1))
  exact ⟨p1, Or.inr (Or.inr (Or.inr (Or.inr (Or.inl ⟨p0, wdAt_c wd w, bk⟩))))⟩
theorem P_slow {L : Int} {d : Nat} {K : zK} {Km : Nat} {N j x : Int} {o : oT_CP} {om om' : oT_P} {F : zF} {B : zB} {Fm : zF} {Bm : zB} (hx : 0 ≤ x ∧ x < 3000) (hxi : x + 1 = F 3 0 14) (hij : F 3 0 14 ≤ j + 1) (hE : EV K Km N B Bm) (hS : PS N j F B Fm Bm) (hd : F 3 0 18 + d = 8) (hdp : 1 ≤ F 3 0 18) (hLT : LT L F B Fm Bm) (hF : fresh B Bm x j 9) (wd : wdAt Bm j 1936486263) (ho : ∀ F B, om.2.2.2 F B = fb_M_itemOfWord om' Km F B) (hBk : BlkSim L K Km N d o.1 om'.1) (hBd : BlkBad om'.1) : zP (fb_Parser_takeItem o K 0 x F B) (fb_M_item om Km Fm Bm) (fun r F' B' _ Fm' Bm' => IPO L d N j x F B Fm Bm r F' B' Fm' Bm') := by
  have hM := PS_MX hE hS
  have h4 := wd.1
  have jj := hS.2.1.1
  have nn := hE.1.2.1
  have t : ∀ c, r64 c → f_M_isWord Km c Fm Bm = some (if 1936486263 = c then 1 else 0, Fm, Bm) := fun c hc => L_wd hM wd hc
  have hS1 := PS_step hE hS (by first | decide | omega)
  have a14 : (advF F B) 3 0 14 = F 3 0 14 := advF_o (by decide)
  have a15 : (advF F B) 3 0 15 = F 3 0 15 := advF_o (by decide)
  have a18 : (advF F B) 3 0 18 = F 3 0 18 := advF_o (by decide)
  have gF : fF F (advF F B) := fF_a fF_r
  have gG : fG Fm (zup3 Fm 14 0 16 (j + 1)) := fG_u fG_r (by decide) (by decide)
  rw [C_itemS (PS_CX hE hS) hx hF.1, L_itemW hM wd ho]
  unfold fb_M_itemOfWord f_M_itemOfWord_389
  simp only [t 114 (by decide), t 125780002955636 (by decide), t 7697253 (by decide), t 1836021349 (by decide), t 120299659095922 (by decide), t 1650549611 (by decide), t 1936486263 (by decide), zb_s, zb_a, ir0, ir1, if_true, if_false, Int.reduceEq, hM.1]
  refine P_frac hx hE hS1 (by decide) (by decide) ?_ ?_
  · intro F1 B1 Fm1 r1 q1 q2 q3 q4 q5 q6 q7 q8 q9
    rw [a14] at q7
    rw [a15] at q3 q8
    rw [a18] at q9
    simp only [ir1, i10]
    have hB1 := fX_B (lo := x) q3 (by decide) (Int.le_refl _)
    have gF1 := fF_t gF q1
    have gG1 := fG_t gG q2
    have hLT1 := LT_k (fr := 0) (j := 0) hLT gF1 gG1 (fB_K hB1) (by decide) (fJ_H fH_r (Int.le_refl _))
    refine zP_c (hBk (x := x) (j := j + 1 + 3) hx.1 (by first | decide | omega) (by first | decide | omega) (EV_f hE hB1 (fH_r (fr := 0))) q4 (by first | decide | omega) (PS_pw q4 (by first | decide | omega)) hLT1 (by rw [fX_3 q3 (by decide) (by decide)]; exact hF.2.2.2.2.1)) (fun r F' B' r' Fm' Bm' hh => ?_)
    have hr := BPO_r hh
    have fin := IPO_B (j := j) hh hE.1.2.1 (by first | decide | omega) hxi gF1 gG1 hB1 q7 q8 q9 (by rw [fX_3 q3 (by decide) (by decide)]; exact hF.2.2.2.2.2.1) (by
      intro j' n Bx By _ _ _ bk _ _ _ gx w g0
      obtain ⟨p1, p0⟩ := IRn_at hF gx w (fun k hk => by rw [g0 k (by first | decide | omega) (by first | decide | omega), fX_3 q3 (by simp; omega) (by first | decide | omega)]) (R := IRd L (d - 1))
      refine ⟨p1, Or.inr (Or.inr (Or.inr (Or.inr (Or.inr ⟨p0, wdAt_c wd w, ?_, ?_, ?_⟩))))⟩
      · rw [gx 2 (by decide) (by decide), g0 2 (by decide) (by decide)]; exact nmAt_c q5 w
      · rw [gx 3 (by decide) (by decide), g0 3 (by decide) (by decide)]
        rw [show j + 1 + 2 = j + 3 by omega] at q6
        exact nmAt_c q6 w
      · rw [show j + 4 = j + 1 + 3 by omega]; exact bk) hr
    rw [L_202 (by first | decide | omega)]
    rcases hr with rfl | rfl
    · simp only [ir0, i00]; exact zP_s fin
    · simp only [ir1, i10]; exact zP_s fin
  · intro F1 B1 Fm1 r1 q1 q2 q3 er
    rw [a15] at q3
    simp only [ir0, i00]
    rw [hBd er.2]
    simp only [zb_s]
    rw [L_202 (by first | decide | omega)]
    exact zP_s ⟨fF_t gF q1, fG_t gG q2, fX_B q3 (by decide) (Int.le_refl _), fH_u fH_r (by decide) (by decide) (Int.le_refl _), Or.inr ⟨rfl, er⟩⟩
end
end
section
section
/-! ===== mirror and move, on both sides ===== -/
theorem L_252e {o : oT_P} {Km n : Nat} {l : Int} {Fm : zF} {Bm : zB} (hl : r32 l) : f_M_itemOfWord_252 o Km (n + 1) l l Fm Bm = zbind (o.1 Fm Bm) (fun _ F B => some (0, F, B)) := by
  unfold f_M_itemOfWord_252 f_M_itemOfWord_300 f_M_itemOfWord_389
  rw [if_pos hl, if_pos hl, if_pos (Int.le_refl _)]
theorem L_252p {o : oT_P} {Km n : Nat} {l m j : Int} {Fm : zF} {Bm : zB} (hl : r32 l) (hm : r32 m) (h : l < m) (hg : Fm 14 0 17 = 0) (hM : MX Fm Bm j) (h2 : Bm 14 0 7 j = 2) : f_M_itemOfWord_252 o Km (n + 1) l m Fm Bm = f_M_itemOfWord_252 o Km n (l + 1) m (zup3 Fm 14 0 16 (j + 1)) Bm := by
  have h16 := hM.1
  have h0 := hM.2.1
  rw [f_M_itemOfWord_252]
  rw [if_pos hl, if_pos hm, if_neg (by first | decide | omega), L_good hg]
  simp only [zb_s, ir1, if_false, Int.reduceEq]
  unfold f_M_itemOfWord_294
  rw [h16, if_pos (by first | decide | omega), if_pos (by first | decide | omega), if_pos h2]
theorem L_252w {o : oT_P} {Km n : Nat} {l m j : Int} {Fm : zF} {Bm : zB} (hl : r32 l) (hm : r32 m) (h : l < m) (hl2 : r32 (l + 1)) (hn : 0 < n) (hg : Fm 14 0 17 = 0) (hM : MX Fm Bm j) (h2 : ¬ Bm 14 0 7 j = 2) (hB : BlkBad o.1) : f_M_itemOfWord_252 o Km (n + 1) l m Fm Bm = some (0, errM Fm Bm (wr Bm j), Bm) := by
  have h16 := hM.1
  have h0 := hM.2.1
  have hk := hM.2.2.1
  obtain ⟨n, rfl⟩ : ∃ y, n = y + 1 := ⟨n - 1, (by first | decide | omega)⟩
  have hb : bad (errM Fm Bm (wr Bm j)) := by
    unfold bad errM wr
    simp only [zup3_v]
    simp
    split <;> omega
  rw [f_M_itemOfWord_252]
  rw [if_pos hl, if_pos hm, if_neg (by first | decide | omega), L_good hg]
  simp only [zb_s, ir1, if_false, Int.reduceEq]
  unfold f_M_itemOfWord_294
  rw [h16, if_pos (by first | decide | omega), if_pos (by first | decide | omega), if_neg h2, L_wrong hg hM]
  simp only [zb_s]
  rw [f_M_itemOfWord_252]
  unfold f_M_itemOfWord_300 f_M_itemOfWord_389
  rw [if_pos hl2, if_pos hm, hB hb, L_goodB hb]
  simp only [zb_s, ir0, if_true]
  split <;> first | rfl | (rw [hB hb]; rfl)
theorem P_mirror {L : Int} {d : Nat} {K : zK} {Km : Nat} {N j x : Int} {o o' : oT_CP} {om om' : oT_P} {F : zF} {B : zB} {Fm : zF} {Bm : zB} (hx : 0 ≤ x ∧ x < 3000) (hxi : x + 1 = F 3 0 14) (hij : F 3 0 14 ≤ j + 1) (hE : EV K Km N B Bm) (hS : PS N j F B Fm Bm) (hd : F 3 0 18 + d = 8) (hdp : 1 ≤ F 3 0 18) (hLT : LT L F B Fm Bm) (hF : fresh B Bm x j 7) (wd : wdAt Bm j 120299659095922) (ho : ∀ F B, om.2.2.2 F B = fb_M_itemOfWord om' Km F B) (hoc : ∀ l0 l1 F B, o.2.2.2.2.2.2.2 l0 l1 F B = fb_Parser_takeMirror o' K l0 l1 F B) (hBk : BlkSim L K Km N d o'.1 om'.1) (hBd : BlkBad om'.1) : zP (fb_Parser_takeItem o K 0 x F B) (fb_M_item om Km Fm Bm) (fun r F' B' _ Fm' Bm' => IPO L d N j x F B Fm Bm r F' B' Fm' Bm') := by
  have hM := PS_MX hE hS
  have h4 := wd.1
  have jj := hS.2.1.1
  have nn := hE.1.2.1
  have km := hE.2.2.2.2.2.2
  have k3 := hE.2.2.2.1
  have k10 := hE.2.2.2.2.1
  have t : ∀ c, r64 c → f_M_isWord Km c Fm Bm = some (if 120299659095922 = c then 1 else 0, Fm, Bm) := fun c hc => L_wd hM wd hc
  have hS1 := PS_step hE hS (by first | decide | omega)
  have hX1 := PS_CX hE hS1
  have hM1 := PS_MX hE hS1
  have hg1 := hS1.2.2.2.1
  have e11 := hS1.1
  have a14 : (advF F B) 3 0 14 = F 3 0 14 := advF_o (by decide)
  have a15 : (advF F B) 3 0 15 = F 3 0 15 := advF_o (by decide)
  have a18 : (advF F B) 3 0 18 = F 3 0 18 := advF_o (by decide)
  have gF : fF F (advF F B) := fF_a fF_r
  have gG : fG Fm (zup3 Fm 14 0 16 (j + 1)) := fG_u fG_r (by decide) (by decide)
  obtain ⟨kk, rfl⟩ : ∃ y, Km = y + 1 + 1 := ⟨Km - 2, (by first | decide | omega)⟩
  rw [C_itemI (PS_CX hE hS) hx hF.1, L_itemW hM wd ho]
  unfold fb_M_itemOfWord f_M_itemOfWord_224 f_M_itemOfWord_239
  simp only [t 114 (by decide), t 125780002955636 (by decide), t 7697253 (by decide), t 1836021349 (by decide), t 120299659095922 (by decide), zb_s, ir0, ir1, if_true, if_false, Int.reduceEq, hM.1]
  rw [hoc]
  unfold fb_Parser_takeMirror
  rw [if_pos ⟨(by first | decide | omega), k3⟩, e11, if_pos ⟨(by first | decide | omega), k10⟩, if_pos (by have := hX1.2.2.2.1; omega), hS1.2.1.2.1]
  by_cases k2 : Bm 14 0 7 (j + 1) = 2
  · obtain ⟨s3, s4⟩ := hS1.2.1.2.2.2.2.1 k2
    have tk := hE.1.2.2 (j + 1) hS1.2.1.1.1 hS1.2.1.1.2
    obtain ⟨_, v1, v2, v3, v4⟩ := tk.2.2.2.2.1 k2
    have hXA : fX [2, 3] x (F 3 0 15) B (zup4 B 3 0 2 x (2 * Bm 14 0 9 (j + 1))) := fX_u fX_r (Or.inl ⟨by decide, rfl⟩)
    have hXB : fX [2, 3] x (F 3 0 15) B (zup4 (zup4 B 3 0 2 x (2 * Bm 14 0 9 (j + 1))) 3 0 3 x (2 * (tnv (Bm 14 0 9 (j + 1)) + Bm 14 0 10 (j + 1)))) := fX_u hXA (Or.inl ⟨by decide, rfl⟩)
    have hB2 := fX_B (lo := x) hXB (by decide) (Int.le_refl _)
    have hE2 := EV_f hE hB2 (fH_r (fr := 0))
    have hS2 := PS_f hS1 hB2 (fH_r (fr := 0))
    have hS3 := PS_step hE2 hS2 (by first | decide | omega)
    rw [if_pos k2, if_pos hx, s3, C_nat v1 v2, L_252p (by decide) (by decide) (by first | decide | omega) hg1 hM1 k2, show (0 : Int) + 1 = 1 from rfl, L_252e (by decide)]
    simp only [zb_s]
    rw [e11, if_pos ⟨(by first | decide | omega), k10⟩, s4, C_adv (CX_b (CX_b hX1))]
    simp only [zb_s, zb_a]
    have gF1 : fF F (advF (advF F B) (zup4 (zup4 B 3 0 2 x (2 * Bm 14 0 9 (j + 1))) 3 0 3 x (2 * (tnv (Bm 14 0 9 (j + 1)) + Bm 14 0 10 (j + 1))))) := fF_a gF
    have gG1 : fG Fm (zup3 (zup3 Fm 14 0 16 (j + 1)) 14 0 16 (j + 1 + 1)) := fG_u gG (by decide) (by decide)
    have hLT1 := LT_k (fr := 0) (j := 0) hLT gF1 gG1 (fB_K hB2) (by decide) (fJ_H fH_r (Int.le_refl _))
    refine zP_c (hBk (x := x) (j := j + 1 + 1) hx.1 (by rw [advF_o (by decide)]; omega) (by rw [advF_o (by decide)]; omega) hE2 hS3 (by rw [advF_o (by decide)]; omega) (PS_pw hS3 (by rw [advF_o (by decide)]; omega)) hLT1 (by rw [fX_3 hXB (by decide) (by decide)]; exact hF.2.2.2.2.1)) (fun r F' B' r' Fm' Bm' hh => ?_)
    have hr := BPO_r hh
    rw [if_pos hr]
    simp only [zb_s]
    rw [if_pos hr, L_202 (by first | decide | omega)]
    refine zP_s (IPO_B (j := j) hh hE.1.2.1 (by first | decide | omega) hxi gF1 gG1 hB2 (by rw [advF_o (by decide)]; exact a14) (by rw [advF_o (by decide)]; exact a15) (by rw [advF_o (by decide)]; exact a18) (by rw [fX_3 hXB (by decide) (by decide)]; exact hF.2.2.2.2.2.1) ?_ hr)
    intro j' n Bx By _ _ _ bk _ _ _ gx w g0
    obtain ⟨p1, p0⟩ := IRn_at hF gx w (fun k hk => by rw [g0 k (by first | decide | omega) (by first | decide | omega), fX_3 hXB (by simp; omega) (by first | decide | omega)]) (R := IRd L (d - 1))
    refine ⟨p1, Or.inr (Or.inr (Or.inr (Or.inl ⟨p0, wdAt_c wd w, ?_, ?_, ?_, ?_⟩)))⟩
    · rw [w 7 (by decide) (by decide)]; exact k2
    · rw [gx 2 (by decide) (by decide), g0 2 (by decide) (by decide), w 9 (by decide) (by decide)]; simp [zup4_v]
    · rw [gx 3 (by decide) (by decide), g0 3 (by decide) (by decide), mvV_c w]; simp [zup4_v, mvV]
    · rw [show j + 2 = j + 1 + 1 by omega]; exact bk
  · have er := PS_err2 hE hS1
    rw [if_neg k2, C_refuse hX1, L_252w (by decide) (by decide) (by first | decide | omega) (by decide) (by first | decide | omega) hg1 hM1 k2 hBd]
    simp only [zb_s]
    rw [if_pos (by decide)]
    simp only [zb_s]
    rw [if_pos (by decide), L_202 (by first | decide | omega)]
    exact zP_s ⟨fF_e gF, fG_e gG, fB_r, fH_u fH_r (by decide) (by decide) (Int.le_refl _), Or.inr ⟨rfl, er⟩⟩
theorem P_move {L : Int} {d : Nat} {K : zK} {Km : Nat} {N j x : Int} {o o' : oT_CP} {om om' : oT_P} {F : zF} {B : zB} {Fm : zF} {Bm : zB} (hx : 0 ≤ x ∧ x < 3000) (hxi : x + 1 = F 3 0 14) (hij : F 3 0 14 ≤ j + 1) (hE : EV K Km N B Bm) (hS : PS N j F B Fm Bm) (hd : F 3 0 18 + d = 8) (hdp : 1 ≤ F 3 0 18) (hLT : LT L F B Fm Bm) (hF : fresh B Bm x j 6) (wd : wdAt Bm j 1836021349) (ho : ∀ F B, om.2.2.2 F B = fb_M_itemOfWord om' Km F B) (hoc : ∀ l0 l1 F B, o.2.2.2.2.2.2.1 l0 l1 F B = fb_Parser_takeMove o' K l0 l1 F B) (hBk : BlkSim L K Km N d o'.1 om'.1) (hBd : BlkBad om'.1) : zP (fb_Parser_takeItem o K 0 x F B) (fb_M_item om Km Fm Bm) (fun r F' B' _ Fm' Bm' => IPO L d N j x F B Fm Bm r F' B' Fm' Bm') := by
  have hM := PS_MX hE hS
  have h4 := wd.1
  have jj := hS.2.1.1
  have nn := hE.1.2.1
  have km := hE.2.2.2.2.2.2
  have k3 := hE.2.2.2.1
  have k10 := hE.2.2.2.2.1
  have t : ∀ c, r64 c → f_M_isWord Km c Fm Bm = some (if 1836021349 = c then 1 else 0, Fm, Bm) := fun c hc => L_wd hM wd hc
  have hS1 := PS_step hE hS (by first | decide | omega)
  have hX1 := PS_CX hE hS1
  have hM1 := PS_MX hE hS1
  have hg1 := hS1.2.2.2.1
  have e11 := hS1.1
  have a14 : (advF F B) 3 0 14 = F 3 0 14 := advF_o (by decide)
  have a15 : (advF F B) 3 0 15 = F 3 0 15 := advF_o (by decide)
  have a18 : (advF F B) 3 0 18 = F 3 0 18 := advF_o (by decide)
  have gF : fF F (advF F B) := fF_a fF_r
  have gG : fG Fm (zup3 Fm 14 0 16 (j + 1)) := fG_u fG_r (by decide) (by decide)
  obtain ⟨kk, rfl⟩ : ∃ y, Km = y + 1 + 1 + 1 := ⟨Km - 3, (by first | decide | omega)⟩
  rw [C_itemM (PS_CX hE hS) hx hF.1, L_itemW hM wd ho]
  unfold fb_M_itemOfWord f_M_itemOfWord_224 f_M_itemOfWord_239
  simp only [t 114 (by decide), t 125780002955636 (by decide), t 7697253 (by decide), t 1836021349 (by decide), zb_s, ir0, ir1, if_true, if_false, Int.reduceEq, hM.1]
  rw [hoc]
  unfold fb_Parser_takeMove
  rw [if_pos ⟨(by first | decide | omega), k3⟩, e11, if_pos ⟨(by first | decide | omega), k10⟩, if_pos (by have := hX1.2.2.2.1; omega), hS1.2.1.2.1]
  by_cases k2 : Bm 14 0 7 (j + 1) = 2
  · obtain ⟨s3, s4⟩ := hS1.2.1.2.2.2.2.1 k2
    have tk := hE.1.2.2 (j + 1) hS1.2.1.1.1 hS1.2.1.1.2
    obtain ⟨_, v1, v2, v3, v4⟩ := tk.2.2.2.2.1 k2
    have hS2 := PS_step hE hS1 (by first | decide | omega)
    have hX2 := PS_CX hE hS2
    have hM2 := PS_MX hE hS2
    have hg2 := hS2.2.2.2.1
    rw [if_pos k2, s3, C_nat v1 v2, L_252p (by decide) (by decide) (by first | decide | omega) hg1 hM1 k2]
    simp only [zb_s]
    rw [e11, if_pos ⟨(by first | decide | omega), k10⟩, s4, C_adv hX1]
    simp only [zb_s]
    rw [hS2.1, if_pos ⟨(by first | decide | omega), k10⟩, if_pos (by have := hX2.2.2.2.1; omega), hS2.2.1.2.1]
    by_cases k4 : Bm 14 0 7 (j + 1 + 1) = 2
    · obtain ⟨s5, s6⟩ := hS2.2.1.2.2.2.2.1 k4
      have tk2 := hE.1.2.2 (j + 1 + 1) hS2.2.1.1.1 hS2.2.1.1.2
      obtain ⟨_, w1, w2, w3, w4⟩ := tk2.2.2.2.2.1 k4
      have hXA : fX [2, 3] x (F 3 0 15) B (zup4 B 3 0 2 x (Bm 14 0 9 (j + 1 + 1) - Bm 14 0 9 (j + 1))) := fX_u fX_r (Or.inl ⟨by decide, rfl⟩)
      have hXB : fX [2, 3] x (F 3 0 15) B (zup4 (zup4 B 3 0 2 x (Bm 14 0 9 (j + 1 + 1) - Bm 14 0 9 (j + 1))) 3 0 3 x ((tnv (Bm 14 0 9 (j + 1 + 1)) + Bm 14 0 10 (j + 1 + 1)) - (tnv (Bm 14 0 9 (j + 1)) + Bm 14 0 10 (j + 1)))) := fX_u hXA (Or.inl ⟨by decide, rfl⟩)
      have hB2 := fX_B (lo := x) hXB (by decide) (Int.le_refl _)
      have hE2 := EV_f hE hB2 (fH_r (fr := 0))
      have hS2' := PS_f hS2 hB2 (fH_r (fr := 0))
      have hS3 := PS_step hE2 hS2' (by first | decide | omega)
      rw [if_pos k4, if_pos hx, s5, C_nat w1 w2, L_252p (by decide) (by decide) (by first | decide | omega) hg2 hM2 k4, show (0 : Int) + 1 + 1 = 2 from rfl, L_252e (by decide)]
      simp only [zb_s]
      rw [hS2.1, if_pos ⟨(by first | decide | omega), k10⟩, s6, C_adv (CX_b (CX_b hX2))]
      simp only [zb_s, zb_a]
      have gF1 : fF F (advF (advF (advF F B) B) (zup4 (zup4 B 3 0 2 x (Bm 14 0 9 (j + 1 + 1) - Bm 14 0 9 (j + 1))) 3 0 3 x ((tnv (Bm 14 0 9 (j + 1 + 1)) + Bm 14 0 10 (j + 1 + 1)) - (tnv (Bm 14 0 9 (j + 1)) + Bm 14 0 10 (j + 1))))) := fF_a (fF_a gF)
      have gG1 : fG Fm (zup3 (zup3 (zup3 Fm 14 0 16 (j + 1)) 14 0 16 (j + 1 + 1)) 14 0 16 (j + 1 + 1 + 1)) := fG_u (fG_u gG (by decide) (by decide)) (by decide) (by decide)
      have hLT1 := LT_k (fr := 0) (j := 0) hLT gF1 gG1 (fB_K hB2) (by decide) (fJ_H fH_r (Int.le_refl _))
      have b14 : (advF (advF (advF F B) B) (zup4 (zup4 B 3 0 2 x (Bm 14 0 9 (j + 1 + 1) - Bm 14 0 9 (j + 1))) 3 0 3 x ((tnv (Bm 14 0 9 (j + 1 + 1)) + Bm 14 0 10 (j + 1 + 1)) - (tnv (Bm 14 0 9 (j + 1)) + Bm 14 0 10 (j + 1))))) 3 0 14 = F 3 0 14 := by rw [advF_o (by decide), advF_o (by decide)]; exact a14
      have b15 : (advF (advF (advF F B) B) (zup4 (zup4 B 3 0 2 x (Bm 14 0 9 (j + 1 + 1) - Bm 14 0 9 (j + 1))) 3 0 3 x ((tnv (Bm 14 0 9 (j + 1 + 1)) + Bm 14 0 10 (j + 1 + 1)) - (tnv (Bm 14 0 9 (j + 1)) + Bm 14 0 10 (j + 1))))) 3 0 15 = F 3 0 15 := by rw [advF_o (by decide), advF_o (by decide)]; exact a15
      have b18 : (advF (advF (advF F B) B) (zup4 (zup4 B 3 0 2 x (Bm 14 0 9 (j + 1 + 1) - Bm 14 0 9 (j + 1))) 3 0 3 x ((tnv (Bm 14 0 9 (j + 1 + 1)) + Bm 14 0 10 (j + 1 + 1)) - (tnv (Bm 14 0 9 (j + 1)) + Bm 14 0 10 (j + 1))))) 3 0 18 = F 3 0 18 := by rw [advF_o (by decide), advF_o (by decide)]; exact a18
      refine zP_c (hBk (x := x) (j := j + 1 + 1 + 1) hx.1 (by first | decide | omega) (by first | decide | omega) hE2 hS3 (by first | decide | omega) (PS_pw hS3 (by first | decide | omega)) hLT1 (by rw [fX_3 hXB (by decide) (by decide)]; exact hF.2.2.2.2.1)) (fun r F' B' r' Fm' Bm' hh => ?_)
      have hr := BPO_r hh
      rw [if_pos hr]
      simp only [zb_s]
      rw [if_pos hr, L_202 (by first | decide | omega)]
      refine zP_s (IPO_B (j := j) hh hE.1.2.1 (by first | decide | omega) hxi gF1 gG1 hB2 b14 b15 b18 (by rw [fX_3 hXB (by decide) (by decide)]; exact hF.2.2.2.2.2.1) ?_ hr)
      intro j' n Bx By _ _ _ bk _ _ _ gx w g0
      obtain ⟨p1, p0⟩ := IRn_at hF gx w (fun k hk => by rw [g0 k (by first | decide | omega) (by first | decide | omega), fX_3 hXB (by simp; omega) (by first | decide | omega)]) (R := IRd L (d - 1))
      refine ⟨p1, Or.inr (Or.inr (Or.inl ⟨p0, wdAt_c wd w, ?_, ?_, ?_, ?_, ?_⟩))⟩
      · rw [w 7 (by decide) (by decide)]; exact k2
      · rw [w 7 (by decide) (by decide), show j + 2 = j + 1 + 1 by omega]; exact k4
      · rw [gx 2 (by decide) (by decide), g0 2 (by decide) (by decide), w 9 (by decide) (by decide), show j + 2 = j + 1 + 1 by omega]; simp [zup4_v]
      · rw [gx 3 (by decide) (by decide), g0 3 (by decide) (by decide), mvV_c w, mvV_c w, show j + 2 = j + 1 + 1 by omega]; simp [zup4_v, mvV]
      · rw [show j + 3 = j + 1 + 1 + 1 by omega]; exact bk
    · have er := PS_err2 hE hS2
      rw [if_neg k4, C_refuse hX2, L_252w (by decide) (by decide) (by first | decide | omega) (by decide) (by first | decide | omega) hg2 hM2 k4 hBd]
      simp only [zb_s]
      rw [if_pos (by decide)]
      simp only [zb_s]
      rw [if_pos (by decide), L_202 (by first | decide | omega)]
      exact zP_s ⟨fF_e (fF_a gF), fG_e (fG_u gG (by decide) (by decide)), fB_r, fH_u fH_r (by decide) (by decide) (Int.le_refl _), Or.inr ⟨rfl, er⟩⟩
  · have er := PS_err2 hE hS1
    rw [if_neg k2, C_refuse hX1, L_252w (by decide) (by decide) (by first | decide | omega) (by decide) (by first | decide | omega) hg1 hM1 k2 hBd]
    simp only [zb_s]
    rw [if_pos (by decide)]
    simp only [zb_s]
    rw [if_pos (by decide), L_202 (by first | decide | omega)]
    exact zP_s ⟨fF_e gF, fG_e gG, fB_r, fH_u fH_r (by decide) (by decide) (Int.le_refl _), Or.inr ⟨rfl, er⟩⟩
end
end
section
section
/-! ===== bar lines, loudness, uses, on both sides ===== -/
theorem L_sg {Km : Nat} {Fm : zF} {Bm : zB} {j w c : Int} (hM : MX Fm Bm j) (h : sgAt Bm j w) (hc : r32 c) : f_M_isSign Km c Fm Bm = some (if w = c then 1 else 0, Fm, Bm) := by
  rw [L_isSign hM hc]
  unfold sgm
  rw [h.1, h.2]
  by_cases e : w = c
  · rw [if_pos ⟨rfl, e⟩, if_pos e]
  · rw [if_neg (fun z => e z.2), if_neg e]
theorem fdR_n {row : Int → Int} {m w : Int} : ∀ {f : Nat} {k : Int}, 0 ≤ k → ∀ p, k ≤ p → p < fdR row m w f k → ¬ row p = w := by
  intro f
  induction f with
  | zero => intro k h0 p a b; unfold fdR at b; omega
  | succ f ih =>
    intro k h0 p a b
    unfold fdR at b
    by_cases h : m ≤ k
    · rw [if_pos h] at b; omega
    · rw [if_neg h] at b
      by_cases q : row k = w
      · rw [if_pos q] at b; omega
      · rw [if_neg q] at b
        by_cases e : p = k
        · rw [e]; exact q
        · exact ih (by first | decide | omega) p (by first | decide | omega) b
theorem IPO_l {L : Int} {d : Nat} {N j x j' : Int} {F : zF} {B : zB} {Fm : zF} {Bm : zB} {F' : zF} {B' : zB} {Fm' : zF} (hx : x < F 3 0 14) (hj : j < j') (gF : fF F F') (gG : fG Fm Fm') (gX : fX [2] x (F 3 0 15) B B') (hS : PS N j' F' B' Fm' Bm) (e14 : F' 3 0 14 = F 3 0 14) (e15 : F' 3 0 15 = F 3 0 15) (e18 : F' 3 0 18 = F 3 0 18) (h5 : B 3 0 5 x = -1) (hI : ∀ Bx By, (∀ k, k ≤ 7 → k ≠ 5 → Bx 3 0 k x = B' 3 0 k x) → (∀ k, 7 ≤ k → k ≤ 11 → By 14 0 k = Bm 14 0 k) → (∀ q, 0 ≤ q → q < L → Bx 3 0 13 q = B 3 0 13 q ∧ By 14 0 25 q = Bm 14 0 25 q) → IRl L Bx By x j) : IPO L d N j x F B Fm Bm 1 F' B' Fm' (zup4 Bm 14 0 31 j (Fm' 14 0 16)) := by
  have hH : fH j Bm (zup4 Bm 14 0 31 j (Fm' 14 0 16)) := fH_u fH_r (by decide) (by decide) (Int.le_refl _)
  refine ⟨gF, gG, fX_B gX (by decide) (Int.le_refl _), hH, Or.inl ⟨rfl, Or.inl ⟨j', hj, PS_f (lo := 0) (pl := 0) hS fB_r hH, ?_, e18, (by first | decide | omega), (by first | decide | omega), ?_, ?_⟩⟩⟩
  · simp [zup4_v]; exact hS.2.2.1
  · rw [fX_3 gX (by decide) (by decide)]; exact h5
  · intro Bx By a b
    refine IRd_l (hI Bx By (fun k p q => a.1 k x p (Int.le_refl _) (by first | decide | omega) (fun z => q z.1)) (fun k p q => ?_) (fun q p r => ⟨?_, ?_⟩))
    · rw [b.2.1 k p q, fH_k hH k (by first | decide | omega)]
    · rw [a.2.2 q p r]; exact gX 3 0 13 q (fun z => absurd z.2.2.1 (by decide)) (fun z => absurd z.2.2.2.1 (by decide))
    · rw [b.2.2 q p r, fH_k hH 25 (by decide)]
theorem P_bar {L : Int} {d : Nat} {K : zK} {Km : Nat} {N j x : Int} {o : oT_CP} {om : oT_P} {F : zF} {B : zB} {Fm : zF} {Bm : zB} (hx : 0 ≤ x ∧ x < 3000) (hxi : x + 1 = F 3 0 14) (hE : EV K Km N B Bm) (hS : PS N j F B Fm Bm) (hF : fresh B Bm x j 1) (sg : sgAt Bm j 124) : zP (fb_Parser_takeItem o K 0 x F B) (fb_M_item om Km Fm Bm) (fun r F' B' _ Fm' Bm' => IPO L d N j x F B Fm Bm r F' B' Fm' Bm') := by
  have hM := PS_MX hE hS
  have h5 := sg.1
  have jj := hS.2.1.1
  have nn := hE.1.2.1
  have t : ∀ c, r32 c → f_M_isSign Km c Fm Bm = some (if 124 = c then 1 else 0, Fm, Bm) := fun c hc => L_sg hM sg hc
  rw [C_item1 (PS_CX hE hS) hx hF.1]
  unfold fb_M_item
  rw [hM.1, if_pos (by first | decide | omega), if_pos (by first | decide | omega), if_neg (by first | decide | omega)]
  simp only [t 60 (by decide), t 124 (by decide), zb_s, ir0, ir1, if_true, if_false, Int.reduceEq, hM.1]
  rw [L_202 (by first | decide | omega)]
  refine zP_s (IPO_l (j' := j + 1) (by first | decide | omega) (by first | decide | omega) (fF_a fF_r) (fG_u fG_r (by decide) (by decide)) fX_r (PS_step hE hS (by first | decide | omega)) (advF_o (by decide)) (advF_o (by decide)) (advF_o (by decide)) hF.2.2.2.2.2.1 ?_)
  intro Bx By gx w _
  obtain ⟨p1, p0⟩ := IRn_at (R := IRd L d) hF gx w (fun _ _ => rfl)
  exact ⟨p1, Or.inr (Or.inl ⟨p0, sgAt_c sg w⟩)⟩
theorem P_loud {L : Int} {d : Nat} {K : zK} {Km : Nat} {N j x : Int} {o : oT_CP} {om : oT_P} {F : zF} {B : zB} {Fm : zF} {Bm : zB} (hx : 0 ≤ x ∧ x < 3000) (hxi : x + 1 = F 3 0 14) (hE : EV K Km N B Bm) (hS : PS N j F B Fm Bm) (hF : fresh B Bm x j 2) (sg : sgAt Bm j 33) : zP (fb_Parser_takeItem o K 0 x F B) (fb_M_item om Km Fm Bm) (fun r F' B' _ Fm' Bm' => IPO L d N j x F B Fm Bm r F' B' Fm' Bm') := by
  have hM := PS_MX hE hS
  have h5 := sg.1
  have jj := hS.2.1.1
  have nn := hE.1.2.1
  have km := hE.2.2.2.2.2.2
  have t : ∀ c, r32 c → f_M_isSign Km c Fm Bm = some (if 33 = c then 1 else 0, Fm, Bm) := fun c hc => L_sg hM sg hc
  have hS1 := PS_step hE hS (by first | decide | omega)
  have hX1 := PS_CX hE hS1
  have hM1 := PS_MX hE hS1
  have hg1 := hS1.2.2.2.1
  have jj1 := hS1.2.1.1
  have ek := hS1.2.1.2.1
  have ev := hS1.2.1.2.2.2.1
  have tk := hE.1.2.2 (j + 1) jj1.1 jj1.2
  have cl := C_takeLoud (x := x) hX1 hx
  have lb := fiL_b (w := Bm 14 0 11 (j + 1)) (L := wL)
  have ll : wL.length = 8 := rfl
  rw [C_itemL (PS_CX hE hS) hx hF.1]
  unfold fb_M_item f_M_item_142
  rw [hM.1, if_pos (by first | decide | omega), if_pos (by first | decide | omega), if_neg (by first | decide | omega)]
  simp only [t 60 (by decide), t 124 (by decide), t 33 (by decide), zb_s, ir0, ir1, if_true, if_false, Int.reduceEq, hM.1]
  rw [if_pos (show 0 ≤ j + 1 ∧ j + 1 < 3001 by omega), if_pos (show r32 (Bm 14 0 7 (j + 1)) by have := hM1.2.2.1; omega)]
  have fail : ∀ {r : zO}, f_Parser_takeLoud K 0 x (advF F B) B = some (0, refF (advF F B) 2, B) → r = zbind (f_M_wrong Km (zup3 Fm 14 0 16 (j + 1)) Bm) (fun r40 F40 B40 => f_M_item_202 om Km j F40 B40) → zP (zbind (f_Parser_takeLoud K 0 x (advF F B) B) (fun r F B => if (r = 0 ∨ r = 1) then some (r, F, B) else none)) r (fun r F' B' _ Fm' Bm' => IPO L d N j x F B Fm Bm r F' B' Fm' Bm') := by
    intro r h1 h2
    have er := PS_err2 hE hS1
    rw [h1, h2, L_wrong hg1 hM1]
    simp only [zb_s]
    rw [if_pos (by decide), L_202 (by first | decide | omega)]
    exact zP_s ⟨fF_e (fF_a fF_r), fG_e (fG_u fG_r (by decide) (by decide)), fB_r, fH_u fH_r (by decide) (by decide) (Int.le_refl _), Or.inr ⟨rfl, er⟩⟩
  by_cases k4 : Bm 14 0 7 (j + 1) = 4
  · have w4 := hM1.2.2.2.2 k4
    have e2 : (advF F B) 10 0 2 = Bm 14 0 11 (j + 1) := by rw [ev]; exact (tk.2.2.2.2.2.2.1 k4).1
    rw [if_pos k4, L_fL km hE.2.1 (by first | decide | omega)]
    simp only [zb_s]
    rw [if_pos (show r32 (fiL wL (Bm 14 0 11 (j + 1)) 0) by omega)]
    by_cases m : Bm 14 0 11 (j + 1) ∈ wL
    · have f0 : ¬ fiL wL (Bm 14 0 11 (j + 1)) 0 = -1 := fun z => fiL_n.mp z m
      rw [if_pos (show 0 ≤ fiL wL (Bm 14 0 11 (j + 1)) 0 by omega), cl.1 (by rw [ek]; exact k4) (by rw [e2]; exact m), e2]
      simp only [zb_s]
      rw [if_pos (by decide), L_202 (by first | decide | omega)]
      have hX2 : fX [2] x (F 3 0 15) B (zup4 B 3 0 2 x (fiL wL (Bm 14 0 11 (j + 1)) 0)) := fX_u fX_r (Or.inl ⟨by decide, rfl⟩)
      have hB2 := fX_B (lo := x) hX2 (by decide) (Int.le_refl _)
      have e16 : (zup3 Fm 14 0 16 (j + 1)) 14 0 16 + 1 = j + 1 + 1 := by simp [zup3_v]
      rw [e16]
      refine zP_s (IPO_l (j' := j + 1 + 1) (by first | decide | omega) (by first | decide | omega) (fF_a (fF_a fF_r)) (fG_u (fG_u fG_r (by decide) (by decide)) (by decide) (by decide)) hX2 (PS_f (PS_step hE hS1 (by first | decide | omega)) hB2 (fH_r (fr := 0))) ?_ ?_ ?_ hF.2.2.2.2.2.1 ?_)
      · rw [advF_o (by decide), advF_o (by decide)]
      · rw [advF_o (by decide), advF_o (by decide)]
      · rw [advF_o (by decide), advF_o (by decide)]
      · intro Bx By gx w _
        obtain ⟨p1, p0⟩ := IRn_at (R := IRd L d) hF gx w (fun k hk => by rw [fX_3 hX2 (by simp; omega) (by first | decide | omega)])
        refine ⟨p1, Or.inr (Or.inr (Or.inl ⟨p0, sgAt_c sg w, ?_, ?_⟩))⟩
        · rw [gx 2 (by decide) (by decide), w 11 (by decide) (by decide)]; simp [zup4_v]
        · rw [gx 2 (by decide) (by decide)]; simp [zup4_v]; omega
    · have f0 : fiL wL (Bm 14 0 11 (j + 1)) 0 = -1 := fiL_n.mpr m
      rw [if_neg (show ¬ 0 ≤ fiL wL (Bm 14 0 11 (j + 1)) 0 by omega)]
      exact fail (cl.2 (fun z => m (by rw [e2] at z; exact z.2))) rfl
  · rw [if_neg k4]
    exact fail (cl.2 (fun z => k4 (by rw [ek] at z; exact z.1))) rfl
end
end
