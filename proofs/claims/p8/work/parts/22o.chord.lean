section
/-! ===== chords and marks, on both sides ===== -/
def fX (ks : List Nat) (x pl : Int) (B B' : zB) : Prop := ∀ c i k y, ¬ (c = 3 ∧ i = 0 ∧ k ∈ ks ∧ y = x) → ¬ (c = 3 ∧ i = 0 ∧ 8 ≤ k ∧ k ≤ 10 ∧ pl ≤ y) → B' c i k y = B c i k y
theorem fX_r {ks : List Nat} {x pl : Int} {B : zB} : fX ks x pl B B := fun _ _ _ _ _ _ => rfl
theorem fX_t {ks : List Nat} {x pl : Int} {B B' B'' : zB} (h : fX ks x pl B B') (h' : fX ks x pl B' B'') : fX ks x pl B B'' := fun c i k y a b => by rw [h' c i k y a b, h c i k y a b]
theorem fX_u {ks : List Nat} {x pl : Int} {B B' : zB} {k : Nat} {y v : Int} (h : fX ks x pl B B') (hk : k ∈ ks ∧ y = x ∨ 8 ≤ k ∧ k ≤ 10 ∧ pl ≤ y) : fX ks x pl B (zup4 B' 3 0 k y v) := fun c i a b p q => by
  rw [zup4_v, if_neg]
  · exact h c i a b p q
  · rintro ⟨rfl, rfl, rfl, rfl⟩
    rcases hk with z | z
    · exact p ⟨rfl, rfl, z⟩
    · exact q ⟨rfl, rfl, z⟩
theorem fX_m {ks ls : List Nat} {x pl pm : Int} {B B' : zB} (h : fX ks x pl B B') (hk : ∀ k ∈ ks, k ∈ ls) (hp : pm ≤ pl) : fX ls x pm B B' := fun c i k y a b => h c i k y (fun z => a ⟨z.1, z.2.1, hk k z.2.2.1, z.2.2.2⟩) (fun z => b ⟨z.1, z.2.1, z.2.2.1, z.2.2.2.1, (by first | decide | omega)⟩)
theorem fX_B {ks : List Nat} {x pl lo : Int} {B B' : zB} (h : fX ks x pl B B') (hk : ∀ k ∈ ks, k ≤ 7) (hl : lo ≤ x) : fB lo pl B B' := fun c i k y a b => h c i k y (fun z => a ⟨z.1, z.2.1, hk k z.2.2.1, by rw [z.2.2.2]; exact hl⟩) b
theorem fX_3 {ks : List Nat} {x pl : Int} {B B' : zB} (h : fX ks x pl B B') {k : Nat} (hk : k ∉ ks) (h8 : k ≤ 7) (y : Int) : B' 3 0 k y = B 3 0 k y := h 3 0 k y (fun z => hk z.2.2.1) (fun z => by have := z.2.2.1; omega)
/-- the pitches from p on are the reference's tokens from i on, m of them -/
def pitR (B Bm : zB) (p i m : Int) : Prop := ∀ k, 0 ≤ k → k < m → B 3 0 8 (p + k) = Bm 14 0 9 (i + k) ∧ B 3 0 9 (p + k) = Bm 14 0 10 (i + k) ∧ B 3 0 10 (p + k) = Bm 14 0 8 (i + k) ∧ Bm 14 0 7 (i + k) = 2
theorem PS_pit {K : zK} {Km : Nat} {N j x : Int} {F : zF} {B : zB} {Fm : zF} {Bm : zB} (hE : EV K Km N B Bm) (hS : PS N j F B Fm Bm) (h2 : Bm 14 0 7 j = 2) : (0 ≤ F 3 0 15 ∧ F 3 0 15 < 1500) ∧ PS N (j + 1) (advF (zup3 F 3 0 15 (F 3 0 15 + 1)) B) (pitB F B x) (zup3 Fm 14 0 16 (j + 1)) Bm ∧ fX [6] x (F 3 0 15) B (pitB F B x) ∧ (pitB F B x) 3 0 6 x = B 3 0 6 x + 1 ∧ pitR (pitB F B x) Bm (F 3 0 15) j 1 := by
  have hc := CUR_adv hE.1 (j := j) (F := zup3 F 3 0 15 (F 3 0 15 + 1)) (by
    have := hS.2.1
    unfold CUR at *
    simp only [zup3_v]
    simpa using this) (by first | decide | omega)
  have hX : fX [6] x (F 3 0 15) B (pitB F B x) := fX_u (fX_u (fX_u (fX_u fX_r (Or.inr ⟨by decide, by decide, Int.le_refl _⟩)) (Or.inr ⟨by decide, by decide, Int.le_refl _⟩)) (Or.inr ⟨by decide, by decide, Int.le_refl _⟩)) (Or.inl ⟨by decide, rfl⟩)
  obtain ⟨⟨n0, n1, hT⟩, _⟩ := hE
  obtain ⟨e11, ⟨⟨j0, j1⟩, hk, hp, hv, hs, hx⟩, ht, hf, hw, hd, hl, hq⟩ := hS
  obtain ⟨a1, a2, a3, a4, a5, a6, a7, a8, a9, a10, a11⟩ := hT j j0 j1
  have jN : j < N := by have : ¬ j = N := fun z => by have := a4.mpr z; omega
                        omega
  have i := a11 jN
  rw [if_pos h2] at i
  have i2 := (hT (j + 1) (by first | decide | omega) (by first | decide | omega)).2.2.2.2.2.2.2.2.2.1
  obtain ⟨s1, s2⟩ := hs h2
  refine ⟨(by first | decide | omega), PS_B ⟨?_, hc, ?_, ?_, ?_, ?_, ?_, ?_⟩ (fB_10 (fX_B (lo := x) hX (by decide) (Int.le_refl _))) (fun _ _ => rfl), hX, ?_, ?_⟩
  · rw [advF_o (by decide)]; simp [zup3_v]; exact e11
  · simp [zup3_v]
  · simp [zup3_v]; exact hf
  · rw [advF_o (by decide)]; simp [zup3_v]; exact hw
  · rw [advF_o (by decide)]; simp [zup3_v]; exact hd
  · rw [advF_o (by decide), advF_o (by decide)]; simp [zup3_v]; exact hl
  · rw [advF_o (by decide)]; simp [zup3_v]; omega
  · unfold pitB; simp [zup4_v]
  · intro k k0 k1
    have : k = 0 := by omega
    subst this
    unfold pitB
    simp [zup4_v]
    exact ⟨s1, s2, hp, h2⟩
theorem pitR_1 {B B' Bm : zB} {p i m x : Int} {ks : List Nat} (h : pitR B Bm p i 1) (hX : fX ks x (p + 1) B B') (hks : ∀ k ∈ ks, k ≤ 7) (h' : pitR B' Bm (p + 1) (i + 1) m) : pitR B' Bm p i (m + 1) := by
  intro k k0 k1
  by_cases e : k = 0
  · subst e
    have f : ∀ r, 8 ≤ r → B' 3 0 r (p + 0) = B 3 0 r (p + 0) := fun r hr => hX 3 0 r (p + 0) (fun z => by have := hks r z.2.2.1; omega) (fun z => by have := z.2.2.2.2; omega)
    rw [f 8 (by decide), f 9 (by decide), f 10 (by decide)]
    exact h 0 (by first | decide | omega) (by first | decide | omega)
  · have t := h' (k - 1) (by first | decide | omega) (by first | decide | omega)
    rw [show p + 1 + (k - 1) = p + k by omega, show i + 1 + (k - 1) = i + k by omega] at t
    exact t
theorem P_chord {K : zK} {Km : Nat} {N x : Int} (hx : 0 ≤ x ∧ x < 3000) : ∀ {q : Nat} {m m' : Nat} {l j : Int} {F : zF} {B : zB} {Fm : zF} {Bm : zB}, l = 6 - q → 0 ≤ l → q < m → q + 1 < m' → EV K Km N B Bm → PS N j F B Fm Bm → B 3 0 6 x = l → zP (f_Parser_takeChord_9 K m l 0 x F B) (f_M_chord_12 Km m' l Fm Bm) (fun r F' B' _ Fm' Bm' => Bm' = Bm ∧ fF F F' ∧ fG Fm Fm' ∧ fX [6] x (F 3 0 15) B B' ∧ (r = 1 ∧ (∃ n, l + n ≤ 6 ∧ 2 ≤ l + n ∧ 0 ≤ n ∧ PS N (j + n + 1) F' B' Fm' Bm' ∧ B' 3 0 6 x = l + n ∧ F' 3 0 15 = F 3 0 15 + n ∧ pitR B' Bm (F 3 0 15) j n ∧ ¬ Bm 14 0 7 (j + n) = 2 ∧ F' 3 0 14 = F 3 0 14 ∧ F' 3 0 18 = F 3 0 18 ∧ F' 3 0 20 = F 3 0 20) ∨ r = 0 ∧ ERR F' Fm')) := by
  intro q
  -- behind the pitches
  have fin : ∀ {l j : Int} {F : zF} {B : zB} {Fm : zF} {Bm : zB}, 0 ≤ l → l ≤ 6 → EV K Km N B Bm → PS N j F B Fm Bm → B 3 0 6 x = l → ¬ Bm 14 0 7 j = 2 → zP (f_Parser_takeChord_37 K 0 x F B) (f_M_chord_61 Km l Fm Bm) (fun r F' B' _ Fm' Bm' => Bm' = Bm ∧ fF F F' ∧ fG Fm Fm' ∧ fX [6] x (F 3 0 15) B B' ∧ (r = 1 ∧ (∃ n, l + n ≤ 6 ∧ 2 ≤ l + n ∧ 0 ≤ n ∧ PS N (j + n + 1) F' B' Fm' Bm' ∧ B' 3 0 6 x = l + n ∧ F' 3 0 15 = F 3 0 15 + n ∧ pitR B' Bm (F 3 0 15) j n ∧ ¬ Bm 14 0 7 (j + n) = 2 ∧ F' 3 0 14 = F 3 0 14 ∧ F' 3 0 18 = F 3 0 18 ∧ F' 3 0 20 = F 3 0 20) ∨ r = 0 ∧ ERR F' Fm')) := by
    intro l j F B Fm Bm l0 l6 hE hS h6 h2
    have hg := hS.2.2.2.1
    have hX := PS_CX hE hS
    have hM := PS_MX hE hS
    have k3 := hE.2.2.2.1
    unfold f_Parser_takeChord_37 f_Parser_takeChord_61 f_M_chord_61 f_M_chord_77
    rw [if_pos ⟨(by first | decide | omega), k3⟩, if_pos hx, h6, if_pos (by first | decide | omega), L_good hg]
    simp only [zb_s]
    rw [if_pos (show r32 1 by decide), if_neg (show ¬ (1 : Int) = 0 by decide), if_pos (show r32 l by omega)]
    by_cases a : 2 ≤ l
    · rw [if_pos a, if_pos a, C_takeSign hX (by decide), L_need hg hM (by decide), PS_sg hE hS]
      by_cases z : sgm Bm j 62 = 0
      · rw [if_pos z, if_pos z]
        simp only [zb_s]
        rw [if_pos (by decide)]
        exact zP_s ⟨rfl, fF_e fF_r, fG_e fG_r, fX_r, Or.inr ⟨rfl, PS_err2 hE hS⟩⟩
      · rw [if_neg z, if_neg z]
        simp only [zb_s]
        rw [if_pos (by decide)]
        have hj : ¬ Bm 14 0 7 j = 0 := by
          have := mt sgm_0.mpr z
          omega
        refine zP_s ⟨rfl, fF_a fF_r, fG_u fG_r (by decide) (by decide), fX_r, Or.inl ⟨rfl, 0, (by first | decide | omega), (by first | decide | omega), (by first | decide | omega), ?_, (by first | decide | omega), ?_, ?_, ?_, ?_, ?_, ?_⟩⟩
        · rw [show j + 0 + 1 = j + 1 by omega]; exact PS_step hE hS hj
        · rw [advF_o (by decide)]; omega
        · intro k k0 k1; omega
        · rw [show j + 0 = j by omega]; exact h2
        · rw [advF_o (by decide)]
        · rw [advF_o (by decide)]
        · rw [advF_o (by decide)]
    · have er := PS_err2 hE hS
      rw [if_neg a, if_neg a, C_refuse hX, L_wrong hg hM]
      simp only [zb_s]
      rw [L_needB er.2]
      simp only [zb_s]
      rw [if_pos (by decide)]
      exact zP_s ⟨rfl, fF_e fF_r, fG_e fG_r, fX_r, Or.inr ⟨rfl, er⟩⟩
  induction q with
  | zero =>
    intro m m' l j F B Fm Bm hl l0 hm hm' hE hS h6
    obtain ⟨m, rfl⟩ : ∃ y, m = y + 1 := ⟨m - 1, (by first | decide | omega)⟩
    obtain ⟨m', rfl⟩ : ∃ y, m' = y + 1 + 1 := ⟨m' - 2, (by first | decide | omega)⟩
    have hg := hS.2.2.2.1
    have hX := PS_CX hE hS
    have hM := PS_MX hE hS
    have k3 := hE.2.2.2.1
    have hkk := hM.2.2.1
    have h16 := hM.1
    have h0 := hM.2.1
    unfold f_Parser_takeChord_9 f_M_chord_12
    rw [if_pos (by first | decide | omega), if_pos (by first | decide | omega), L_good hg]
    simp only [zb_s]
    rw [if_pos (show r32 1 by decide), if_neg (show ¬ (1 : Int) = 0 by decide), h16, if_pos (by first | decide | omega), if_pos (by first | decide | omega)]
    by_cases k2 : Bm 14 0 7 j = 2
    · have er := PS_err2 hE hS
      rw [if_pos k2, if_pos (by first | decide | omega), if_pos (by first | decide | omega), L_wrong hg hM]
      simp only [zb_s]
      unfold f_M_chord_12
      rw [L_goodB er.2]
      simp only [zb_s]
      rw [if_pos (by decide), if_pos trivial]
      unfold f_M_chord_61 f_M_chord_77
      rw [L_goodB er.2]
      simp only [zb_s]
      rw [if_pos (by decide), if_pos trivial, L_needB er.2]
      unfold f_Parser_takeChord_37 f_Parser_takeChord_61
      have z : sgm Bm j 62 = 0 := sgm_0.mpr (fun z => by have := z.1; omega)
      rw [if_pos ⟨(by first | decide | omega), k3⟩, if_pos hx, h6, if_pos (by first | decide | omega), if_pos (by first | decide | omega), C_takeSign hX (by decide), PS_sg hE hS, if_pos z]
      simp only [zb_s]
      rw [if_pos (by decide)]
      exact zP_s ⟨rfl, fF_e fF_r, fG_e fG_r, fX_r, Or.inr ⟨rfl, er⟩⟩
    · rw [if_neg k2]
      exact fin l0 (by first | decide | omega) hE hS h6 k2
  | succ q ih =>
    intro m m' l j F B Fm Bm hl l0 hm hm' hE hS h6
    obtain ⟨m, rfl⟩ : ∃ y, m = y + 1 := ⟨m - 1, (by first | decide | omega)⟩
    obtain ⟨m', rfl⟩ : ∃ y, m' = y + 1 := ⟨m' - 1, (by first | decide | omega)⟩
    have hg := hS.2.2.2.1
    have hX := PS_CX hE hS
    have hM := PS_MX hE hS
    have k3 := hE.2.2.2.1
    have k10 := hE.2.2.2.2.1
    have hkk := hM.2.2.1
    have h16 := hM.1
    have h0 := hM.2.1
    have ek := hS.2.1.2.1
    unfold f_Parser_takeChord_9 f_M_chord_12
    rw [if_pos (by first | decide | omega), if_neg (by first | decide | omega), if_pos ⟨(by first | decide | omega), k3⟩, hS.1, if_pos ⟨(by first | decide | omega), k10⟩, if_pos (by first | decide | omega), ek, L_good hg]
    simp only [zb_s]
    rw [if_pos (show r32 1 by decide), if_neg (show ¬ (1 : Int) = 0 by decide), h16, if_pos (show 0 ≤ j ∧ j < 3001 by omega), if_pos (show r32 (Bm 14 0 7 j) by omega)]
    by_cases k2 : Bm 14 0 7 j = 2
    · obtain ⟨pp, hS1, hX1, h61, hR⟩ := PS_pit (x := x) hE hS k2
      rw [if_pos k2, if_pos k2, if_pos (by first | decide | omega), if_neg (by first | decide | omega), C_takePitch hX pp hx]
      simp only [zb_s]
      have hfB := fX_B (lo := x) hX1 (by decide) (Int.le_refl _)
      refine zP_m (ih (l := l + 1) (j := j + 1) (by first | decide | omega) (by first | decide | omega) (by first | decide | omega) (by first | decide | omega) (EV_f hE hfB (fH_r (fr := 0))) hS1 (by first | decide | omega)) (fun r F' B' r' Fm' Bm' hh => ?_)
      obtain ⟨g1, g2, g3, g4, g5⟩ := hh
      have e15 : (advF (zup3 F 3 0 15 (F 3 0 15 + 1)) B) 3 0 15 = F 3 0 15 + 1 := by rw [advF_o (by decide)]; simp [zup3_v]
      have e14 : (advF (zup3 F 3 0 15 (F 3 0 15 + 1)) B) 3 0 14 = F 3 0 14 := by rw [advF_o (by decide)]; simp [zup3_v]
      have e18 : (advF (zup3 F 3 0 15 (F 3 0 15 + 1)) B) 3 0 18 = F 3 0 18 := by rw [advF_o (by decide)]; simp [zup3_v]
      have e20 : (advF (zup3 F 3 0 15 (F 3 0 15 + 1)) B) 3 0 20 = F 3 0 20 := by rw [advF_o (by decide)]; simp [zup3_v]
      rw [e15] at g4 g5
      rw [e14, e18, e20] at g5
      refine ⟨g1, fF_t (fF_a (fF_u fF_r (by decide))) g2, fG_t (fG_u fG_r (by decide) (by decide)) g3, fX_t hX1 (fX_m g4 (fun _ z => z) (by first | decide | omega)), ?_⟩
      rcases g5 with ⟨rfl, n, n1, n2, n3, n4, n5, n6, n7, n8, n9⟩ | g5
      · refine Or.inl ⟨rfl, n + 1, (by first | decide | omega), (by first | decide | omega), (by first | decide | omega), ?_, (by first | decide | omega), (by first | decide | omega), pitR_1 hR g4 (by decide) n7, ?_, n9⟩
        · rw [show j + (n + 1) + 1 = j + 1 + n + 1 by omega]; exact n4
        · rw [show j + (n + 1) = j + 1 + n by omega]; exact n8
      · exact Or.inr g5
    · rw [if_neg k2, if_neg k2]
      exact fin l0 (by first | decide | omega) hE hS h6 k2
end
