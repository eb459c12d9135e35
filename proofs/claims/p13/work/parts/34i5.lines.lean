section
section
/-! ===== the lines told, both sides; the class's xs ===== -/
theorem smR_t {f : Int → Int} : ∀ (m n : Nat) (a : Int), smR f a (m + n) = smR f a m + smR f (a + m) n := by
  intro m
  induction m with
  | zero =>
    intro n a
    rw [Nat.zero_add, smR, show a + ((0 : Nat) : Int) = a by omega]
    omega
  | succ m ih =>
    intro n a
    rw [show m + 1 + n = (m + n) + 1 by omega, smR, smR, ih n (a + 1), show a + 1 + (m : Int) = a + ((m + 1 : Nat) : Int) by omega]
    omega
section
variable {K : zK} {V p l w : Int}
theorem C_wOX {F : zF} {B : zB} {W : Int → Int} {t : Int} (hl : 0 ≤ l ∧ l < K.2 2) (ht : t ≤ 100) (h6 : ∀ j, 0 ≤ j → j < t → B 2 l 6 j = W j) : ∀ (d N : Nat) (j v : Int), j + d = t → 0 ≤ j → d < N → f_Layout_widthOf_10 K N j v l t F B = some (v + smR W j d, F, B) := by
  intro d
  induction d with
  | zero =>
    intro N j v hj j0 hN
    obtain ⟨n, rfl⟩ : ∃ n, N = n + 1 := ⟨N - 1, (by first | decide | omega)⟩
    rw [f_Layout_widthOf_10, if_pos (by unfold r32; omega), if_pos (by unfold r32; omega), if_pos (by first | decide | omega), smR, Int.add_zero]
  | succ d ih =>
    intro N j v hj j0 hN
    obtain ⟨n, rfl⟩ : ∃ n, N = n + 1 := ⟨N - 1, (by first | decide | omega)⟩
    rw [f_Layout_widthOf_10, if_pos (by unfold r32; omega), if_pos (by unfold r32; omega), if_neg (by first | decide | omega), if_pos hl, if_pos (by first | decide | omega), h6 j j0 (by first | decide | omega), ih n (j + 1) _ (by first | decide | omega) (by first | decide | omega) (by first | decide | omega), smR, Int.add_assoc]
/-- lines told so far, both sides: i of them, up to bar a -/
def LYi (l w nb i a : Int) (B Bm : zB) : Prop := (i = 0 → a = 0) ∧ ∀ j, 0 ≤ j → j < i → B 2 l 7 j = Bm 13 w 49 j ∧ (0 ≤ Bm 13 w 49 j ∧ 1 ≤ Bm 13 w 50 j ∧ Bm 13 w 49 j + Bm 13 w 50 j ≤ nb) ∧ (if j + 1 < i then B 2 l 7 (j + 1) else a) = Bm 13 w 49 j + Bm 13 w 50 j ∧ B 2 l 8 j = Bm 13 w 51 j ∧ B 2 l 9 j = Bm 13 w 52 j ∧ (j = 0 → B 2 l 7 0 = 0) ∧ (0 ≤ Bm 13 w 51 j ∧ Bm 13 w 51 j ≤ 50000000)
def lnX (l : Int) (B B' : zB) : Prop := ∀ c y k x, ¬ (c = 2 ∧ y = l ∧ (k = 7 ∨ k = 8 ∨ k = 9)) → B' c y k x = B c y k x
theorem P_lns {Km : Nat} {nb wd fi : Int} {W L M : Int → Int} {F0 : zF} {B0 : zB} {Fm0 : zF} {Bm0 : zB} (hK : 60000 ≤ K.1) (hKm : 200 ≤ Km) (hl : 0 ≤ l ∧ l < K.2 2) (w0 : 0 ≤ w ∧ w < 3) (h : PQl K V p F0 B0) (hfi : F0 6 p 2 = fi) (h2 : Fm0 13 w 2 = fi) (h7 : Fm0 13 w 7 = nb) (n0 : 0 ≤ nb ∧ nb ≤ 100) (hw : 0 ≤ wd ∧ wd ≤ 2000) (hW : ∀ t, 0 ≤ W t ∧ W t ≤ 400000) (c6 : ∀ t, 0 ≤ t → t < nb → B0 2 l 6 t = W t) (m46 : ∀ t, 0 ≤ t → t < nb → Bm0 13 w 46 t = W t) (hD : DPp W fi wd nb L M 0) (c10 : ∀ i, 0 ≤ i → i ≤ nb → B0 2 l 10 i = L i) (c11 : ∀ i, 0 ≤ i → i < nb → B0 2 l 11 i = i + M i) (m60 : ∀ i, 0 ≤ i → i < nb → Bm0 14 0 60 i = M i) : ∀ (d N N' : Nat) (i a : Int) (F : zF) (B : zB) (Fm : zF) (Bm : zB), nb ≤ a + d → a ≤ nb → 0 ≤ i → i ≤ a → d < N → d < N' → F 2 l 0 = i → Fm 13 w 48 = i → (∀ c y k, ¬ (c = 2 ∧ y = l ∧ k = 0) → F c y k = F0 c y k) → lnX l B0 B → (∀ c y k, ¬ (c = 13 ∧ y = w ∧ k = 48) → Fm c y k = Fm0 c y k) → (∀ c y k x, ¬ (c = 13 ∧ y = w ∧ 49 ≤ k ∧ k ≤ 52) → Bm c y k x = Bm0 c y k x) → LYi l w nb i a B Bm → ∃ n F' B' Fm' Bm', f_Layout_breakLines_34 K N i a nb l p wd F B = f_Layout_breakLines_135 K nb l p wd F' B' ∧ f_M_lines_177 Km N' a w wd Fm Bm = some (n, Fm', Bm') ∧ (F' 2 l 0 = n ∧ Fm' 13 w 48 = n ∧ 0 ≤ n ∧ n ≤ nb) ∧ (∀ c y k, ¬ (c = 2 ∧ y = l ∧ k = 0) → F' c y k = F0 c y k) ∧ lnX l B0 B' ∧ (∀ c y k, ¬ (c = 13 ∧ y = w ∧ k = 48) → Fm' c y k = Fm0 c y k) ∧ (∀ c y k x, ¬ (c = 13 ∧ y = w ∧ 49 ≤ k ∧ k ≤ 52) → Bm' c y k x = Bm0 c y k x) ∧ LYi l w nb n nb B' Bm' := by
  have hf : -7 ≤ fi ∧ fi ≤ 7 := by rw [← hfi]; exact h.2.2.1
  have stop : ∀ (N N' : Nat) (i a : Int) (F : zF) (B : zB) (Fm : zF) (Bm : zB), a = nb → 0 ≤ i → i ≤ a → F 2 l 0 = i → Fm 13 w 48 = i → (∀ c y k, ¬ (c = 2 ∧ y = l ∧ k = 0) → F c y k = F0 c y k) → lnX l B0 B → (∀ c y k, ¬ (c = 13 ∧ y = w ∧ k = 48) → Fm c y k = Fm0 c y k) → (∀ c y k x, ¬ (c = 13 ∧ y = w ∧ 49 ≤ k ∧ k ≤ 52) → Bm c y k x = Bm0 c y k x) → LYi l w nb i a B Bm → ∃ n F' B' Fm' Bm', f_Layout_breakLines_34 K (N + 1) i a nb l p wd F B = f_Layout_breakLines_135 K nb l p wd F' B' ∧ f_M_lines_177 Km (N' + 1) a w wd Fm Bm = some (n, Fm', Bm') ∧ (F' 2 l 0 = n ∧ Fm' 13 w 48 = n ∧ 0 ≤ n ∧ n ≤ nb) ∧ (∀ c y k, ¬ (c = 2 ∧ y = l ∧ k = 0) → F' c y k = F0 c y k) ∧ lnX l B0 B' ∧ (∀ c y k, ¬ (c = 13 ∧ y = w ∧ k = 48) → Fm' c y k = Fm0 c y k) ∧ (∀ c y k x, ¬ (c = 13 ∧ y = w ∧ 49 ≤ k ∧ k ≤ 52) → Bm' c y k x = Bm0 c y k x) ∧ LYi l w nb n nb B' Bm' := by
    intro N N' i a F B Fm Bm ea i0 ia e0 e48 f b g m hy
    rw [ea] at hy
    refine ⟨i, F, B, Fm, Bm, ?_, ?_, ⟨e0, e48, i0, (by first | decide | omega)⟩, f, b, g, m, hy⟩
    · rw [f_Layout_breakLines_34, if_pos (by unfold r32; omega)]
      by_cases c : 100 ≤ i
      · rw [if_pos c]
      · rw [if_neg c, if_pos (by unfold r32; omega), if_pos (by unfold r32; omega), if_pos (by first | decide | omega)]
    · rw [f_M_lines_177, if_pos w0, if_pos (by unfold r32; omega), g 13 w 7 (by first | decide | omega), h7, if_pos (by unfold r32; omega), if_pos (by first | decide | omega), e48]
  intro d
  induction d with
  | zero =>
    intro N N' i a F B Fm Bm hd an i0 ia hN hN' e0 e48 f b g m hy
    obtain ⟨n, rfl⟩ : ∃ n, N = n + 1 := ⟨N - 1, (by first | decide | omega)⟩
    obtain ⟨n', rfl⟩ : ∃ n, N' = n + 1 := ⟨N' - 1, (by first | decide | omega)⟩
    exact stop n n' i a F B Fm Bm (by first | decide | omega) i0 ia e0 e48 f b g m hy
  | succ d ih =>
    intro N N' i a F B Fm Bm hd an i0 ia hN hN' e0 e48 f b g m hy
    obtain ⟨n, rfl⟩ : ∃ n, N = n + 1 := ⟨N - 1, (by first | decide | omega)⟩
    obtain ⟨n', rfl⟩ : ∃ n, N' = n + 1 := ⟨N' - 1, (by first | decide | omega)⟩
    by_cases ea : a = nb
    · exact stop n n' i a F B Fm Bm ea i0 ia e0 e48 f b g m hy
    obtain ⟨_, hb⟩ := DPp_b hW hf hw hD (nb - a).toNat a (by first | decide | omega) (by first | decide | omega)
    obtain ⟨⟨m1, m2⟩, hLa, hM1⟩ := hb (by first | decide | omega)
    have e11 := c11 a (by first | decide | omega) (by first | decide | omega)
    have e10 := c10 a (by first | decide | omega) (by first | decide | omega)
    have e10' := c10 (a + M a) (by first | decide | omega) (by first | decide | omega)
    have e60 := m60 a (by first | decide | omega) (by first | decide | omega)
    generalize hz : M a = z at *
    obtain ⟨zn, hzn⟩ : ∃ zn : Nat, z = zn := ⟨z.toNat, (by first | decide | omega)⟩
    have lwE : lwX W fi a z.toNat = lwX W fi a zn := by rw [hzn]; rfl
    have ld := ldV_b (b := a) hf
    have sb := smR_b (f := W) (m := 400000) zn a hW
    have zn1 : (zn : Int) ≤ 100 := by omega
    have xb : 0 ≤ lwX W fi a zn ∧ lwX W fi a zn ≤ 50000000 := by
      unfold lwX
      omega
    -- the class
    have fl : lyF l F0 F := fun c y k nn => f c y k (by first | decide | omega)
    have bl : lyB l B0 (zup4 B 2 l 7 i a) := fun c y k x nn => by rw [zup4_v, if_neg (by first | decide | omega), b c y k x (by first | decide | omega)]
    have hq := PQ_f h fl bl
    have q11 : (zup4 B 2 l 7 i a) 2 l 11 a = a + z := by rw [up_o (by decide), b 2 l 11 a (by first | decide | omega)]; exact e11
    have cw : f_Layout_widthOf K l p a (a + z) F (zup4 B 2 l 7 i a) = some (lwX W fi a zn, F, zup4 B 2 l 7 i a) := by
      unfold f_Layout_widthOf
      rw [C_leadX hq (by unfold r32; omega), zb_s, fl 6 p 2 (by first | decide | omega), hfi, C_wOX (W := W) (t := a + z) hl (by first | decide | omega) (fun j j0 j1 => by rw [up_o (by decide), b 2 l 6 j (by first | decide | omega)]; exact c6 j j0 (by first | decide | omega)) zn K.1 a (ldV fi a) (by first | decide | omega) (by first | decide | omega) (by first | decide | omega)]
      rfl
    have cE : f_Layout_breakLines_34 K (n + 1) i a nb l p wd F B = f_Layout_breakLines_34 K n (i + 1) (a + z) nb l p wd (zup3 F 2 l 0 (i + 1)) (zup4 (zup4 (zup4 B 2 l 7 i a) 2 l 8 i (lwX W fi a zn)) 2 l 9 i (L a - L (a + z))) := by
      rw [f_Layout_breakLines_34, if_pos (by unfold r32; omega), if_neg (by first | decide | omega), if_pos (by unfold r32; omega), if_pos (by unfold r32; omega), if_neg (by first | decide | omega), if_pos hl, e0, if_pos (by first | decide | omega), if_pos (by first | decide | omega), q11, cw, zb_s, if_pos (by first | decide | omega)]
      have r11 : (zup4 (zup4 B 2 l 7 i a) 2 l 8 i (lwX W fi a zn)) 2 l 11 a = a + z := by rw [up_o (by decide)]; exact q11
      have r10 : (zup4 (zup4 B 2 l 7 i a) 2 l 8 i (lwX W fi a zn)) 2 l 10 a = L a := by rw [up_o (by decide), up_o (by decide), b 2 l 10 a (by first | decide | omega)]; exact e10
      have r10' : (zup4 (zup4 B 2 l 7 i a) 2 l 8 i (lwX W fi a zn)) 2 l 10 (a + z) = L (a + z) := by rw [up_o (by decide), up_o (by decide), b 2 l 10 (a + z) (by first | decide | omega)]; exact e10'
      rw [r11, if_pos (by first | decide | omega), e0, if_pos (by first | decide | omega), r10, r10', up_o (by decide), r11]
    -- the reference
    have u1 : (zup4 Bm 13 w 49 i a) 14 0 60 a = zn := by rw [zup4_v, if_neg (by first | decide | omega), m 14 0 60 a (by first | decide | omega), e60]; exact hzn
    have u2 : (zup4 (zup4 Bm 13 w 49 i a) 13 w 50 i zn) 14 0 60 a = zn := by rw [zup4_v, if_neg (by first | decide | omega)]; exact u1
    have g2 : Fm 13 w 2 = fi := by rw [g 13 w 2 (by first | decide | omega)]; exact h2
    have g7 : Fm 13 w 7 = nb := by rw [g 13 w 7 (by first | decide | omega)]; exact h7
    have lwm : f_M_lineWide Km w a zn Fm (zup4 (zup4 Bm 13 w 49 i a) 13 w 50 i zn) = some (lwX W fi a zn, Fm, zup4 (zup4 Bm 13 w 49 i a) 13 w 50 i zn) := by
      have := L_lwX (K := Km) (w := w) (F := Fm) (B := zup4 (zup4 Bm 13 w 49 i a) 13 w 50 i zn) (a := a) (n := zn) (W := W) hKm w0 (by rw [g2]; exact hf) (fun t t0 t1 => by rw [zup4_v, if_neg (by first | decide | omega), zup4_v, if_neg (by first | decide | omega), m 13 w 46 t (by first | decide | omega)]; exact m46 t t0 (by first | decide | omega)) (by first | decide | omega) (by first | decide | omega)
      rw [g2] at this
      exact this
    have u3 : (zup4 (zup4 (zup4 Bm 13 w 49 i a) 13 w 50 i zn) 13 w 51 i (lwX W fi a zn)) 14 0 60 a = zn := by rw [zup4_v, if_neg (by first | decide | omega)]; exact u2
    have prm : f_M_price Km w a zn wd Fm (zup4 (zup4 (zup4 Bm 13 w 49 i a) 13 w 50 i zn) 13 w 51 i (lwX W fi a zn)) = some (L a - L (a + z), Fm, zup4 (zup4 (zup4 Bm 13 w 49 i a) 13 w 50 i zn) 13 w 51 i (lwX W fi a zn)) := by
      have := L_prcX (K := Km) (w := w) (F := Fm) (B := zup4 (zup4 (zup4 Bm 13 w 49 i a) 13 w 50 i zn) 13 w 51 i (lwX W fi a zn)) (a := a) (n := zn) (W := W) (wd := wd) hKm w0 (by rw [g2]; exact hf) (by rw [g7]; exact n0) (fun t t0 t1 => by rw [zup4_v, if_neg (by first | decide | omega), zup4_v, if_neg (by first | decide | omega), zup4_v, if_neg (by first | decide | omega), m 13 w 46 t (by first | decide | omega)]; exact m46 t t0 (by first | decide | omega)) hW (by first | decide | omega) (by first | decide | omega) hw
      rw [g2, g7] at this
      rw [lwE] at hM1 hLa
      rw [if_neg (show ¬ (¬ zn ≤ 1 ∧ wd < lwX W fi a zn) by omega)] at this
      have pz : prV wd (lwX W fi a zn) nb (a + (zn : Int)) = L a - L (a + z) := by rw [← hzn]; omega
      rw [this, pz]
    have mE : f_M_lines_177 Km (n' + 1) a w wd Fm Bm = f_M_lines_177 Km n' (a + z) w wd (zup3 Fm 13 w 48 (i + 1)) (zup4 (zup4 (zup4 (zup4 Bm 13 w 49 i a) 13 w 50 i zn) 13 w 51 i (lwX W fi a zn)) 13 w 52 i (L a - L (a + z))) := by
      rw [f_M_lines_177, if_pos w0, if_pos (by unfold r32; omega), g7, if_pos (by unfold r32; omega), if_neg (by first | decide | omega), e48, if_pos (by first | decide | omega), if_pos (by first | decide | omega), u1, u2, lwm, zb_s, u3, prm, zb_s, e48, if_pos (by first | decide | omega)]
      have u4 : (zup4 (zup4 (zup4 (zup4 Bm 13 w 49 i a) 13 w 50 i zn) 13 w 51 i (lwX W fi a zn)) 13 w 52 i (L a - L (a + z))) 14 0 60 a = zn := by rw [zup4_v, if_neg (by first | decide | omega)]; exact u3
      rw [u4, ← hzn]
    rw [cE, mE]
    generalize hBc : zup4 (zup4 (zup4 B 2 l 7 i a) 2 l 8 i (lwX W fi a zn)) 2 l 9 i (L a - L (a + z)) = Bc
    generalize hBn : zup4 (zup4 (zup4 (zup4 Bm 13 w 49 i a) 13 w 50 i zn) 13 w 51 i (lwX W fi a zn)) 13 w 52 i (L a - L (a + z)) = Bn
    have cn : ∀ c y k x, ¬ (c = 2 ∧ y = l ∧ (k = 7 ∨ k = 8 ∨ k = 9) ∧ x = i) → Bc c y k x = B c y k x := fun c y k x nn => by rw [← hBc, zup4_v, if_neg (by first | decide | omega), zup4_v, if_neg (by first | decide | omega), zup4_v, if_neg (by first | decide | omega)]
    have mn : ∀ c y k x, ¬ (c = 13 ∧ y = w ∧ (49 ≤ k ∧ k ≤ 52) ∧ x = i) → Bn c y k x = Bm c y k x := fun c y k x nn => by rw [← hBn, zup4_v, if_neg (by first | decide | omega), zup4_v, if_neg (by first | decide | omega), zup4_v, if_neg (by first | decide | omega), zup4_v, if_neg (by first | decide | omega)]
    have c7 : Bc 2 l 7 i = a := by rw [← hBc, up_o (by decide), up_o (by decide), up_s]
    have c8 : Bc 2 l 8 i = lwX W fi a zn := by rw [← hBc, up_o (by decide), up_s]
    have c9 : Bc 2 l 9 i = L a - L (a + z) := by rw [← hBc, up_s]
    have n49 : Bn 13 w 49 i = a := by rw [← hBn]; simp [zup4_v]
    have n50 : Bn 13 w 50 i = z := by rw [← hBn, hzn]; simp [zup4_v]
    have n51 : Bn 13 w 51 i = lwX W fi a zn := by rw [← hBn]; simp [zup4_v]
    have n52 : Bn 13 w 52 i = L a - L (a + z) := by rw [← hBn]; simp [zup4_v]
    refine ih n n' (i + 1) (a + z) _ Bc _ Bn (by first | decide | omega) (by first | decide | omega) (by first | decide | omega) (by first | decide | omega) (by first | decide | omega) (by first | decide | omega) (by rw [zup3_v, if_pos ⟨rfl, rfl, rfl⟩]) (by rw [zup3_v, if_pos ⟨rfl, rfl, rfl⟩]) (fun c y k nn => by rw [zup3_v, if_neg (by first | decide | omega)]; exact f c y k nn) (fun c y k x nn => by rw [cn c y k x (by first | decide | omega), b c y k x nn]) (fun c y k nn => by rw [zup3_v, if_neg (by first | decide | omega)]; exact g c y k nn) (fun c y k x nn => by rw [mn c y k x (by first | decide | omega), m c y k x nn]) ⟨fun q => (by first | decide | omega), fun j j0 j1 => ?_⟩
    by_cases q : j = i
    · subst q
      rw [c7, c8, c9, n49, n50, n51, n52, if_neg (by first | decide | omega)]
      refine ⟨rfl, ⟨(by first | decide | omega), (by first | decide | omega), (by first | decide | omega)⟩, rfl, rfl, rfl, fun q0 => ?_, xb⟩
      have := hy.1 q0
      rw [← q0, c7]
      exact this.trans q0.symm
    · obtain ⟨y1, y2, y3, y4, y5, y6, y7⟩ := hy.2 j j0 (by first | decide | omega)
      rw [cn 2 l 7 j (by first | decide | omega), cn 2 l 8 j (by first | decide | omega), cn 2 l 9 j (by first | decide | omega), mn 13 w 49 j (by first | decide | omega), mn 13 w 50 j (by first | decide | omega), mn 13 w 51 j (by first | decide | omega), mn 13 w 52 j (by first | decide | omega), if_pos (by first | decide | omega)]
      refine ⟨y1, y2, ?_, y4, y5, fun q0 => by rw [cn 2 l 7 0 (by first | decide | omega)]; exact y6 q0, y7⟩
      by_cases q' : j + 1 = i
      · rw [q', c7]
        rw [if_neg (by first | decide | omega)] at y3
        exact y3
      · rw [cn 2 l 7 (j + 1) (by first | decide | omega)]
        rw [if_pos (by first | decide | omega)] at y3
        exact y3
-- the xs of the class
theorem C_x108X {F : zF} {a l7 l6 l5 ln e : Int} {rec : Int → Int → Int → Int → Int → Int → Int → zF → zB → zO} (hl : 0 ≤ l ∧ l < K.2 2) (ha : 0 ≤ a ∧ a < 100) (h6 : 0 < l6 ∧ l6 ≤ 4000) (e1 : e ≤ 3200) : ∀ (d N : Nat) (j v : Int) (B : zB), j + d = e → 0 ≤ j → d < N → B 2 l 5 (a + 1) = e → ∃ B', f_Layout_setXs_108 rec K N j v a l7 l6 l5 l ln F B = rec (a + 1) l7 l6 l5 (v + smR (fun c => B 2 l 2 c) j d) l ln F B' ∧ (∀ c, j ≤ c → c < e → B' 2 l 3 c = v + smR (fun c => B 2 l 2 c) j (c - j).toNat + zdv (l7 * (c - l5)) l6) ∧ ∀ c y k x, ¬ (c = 2 ∧ y = l ∧ k = 3 ∧ j ≤ x ∧ x < e) → B' c y k x = B c y k x := by
  intro d
  induction d with
  | zero =>
    intro N j v B hj j0 hN h5
    obtain ⟨n, rfl⟩ : ∃ n, N = n + 1 := ⟨N - 1, (by first | decide | omega)⟩
    rw [f_Layout_setXs_108, if_pos hl, if_pos (by first | decide | omega), if_pos (by unfold r32; omega), h5, if_pos (by unfold r32; omega), if_pos (by first | decide | omega)]
    exact ⟨B, by rw [smR, Int.add_zero], fun c a b => (by first | decide | omega), fun _ _ _ _ _ => rfl⟩
  | succ d ih =>
    intro N j v B hj j0 hN h5
    obtain ⟨n, rfl⟩ : ∃ n, N = n + 1 := ⟨N - 1, (by first | decide | omega)⟩
    rw [f_Layout_setXs_108, if_pos hl, if_pos (by first | decide | omega), if_pos (by unfold r32; omega), h5, if_pos (by unfold r32; omega), if_neg (by first | decide | omega), if_pos (iI_n0 h6.1 (by unfold r32; omega)), if_pos (by first | decide | omega)]
    generalize hB1 : zup4 B 2 l 3 j (v + zdv (l7 * (j - l5)) l6) = B1
    have un : ∀ c y k x, ¬ (c = 2 ∧ y = l ∧ k = 3 ∧ x = j) → B1 c y k x = B c y k x := fun c y k x nn => by rw [← hB1, zup4_v, if_neg nn]
    have u3 : B1 2 l 3 j = v + zdv (l7 * (j - l5)) l6 := by rw [← hB1, up_s]
    have e2 : (fun c => B1 2 l 2 c) = fun c => B 2 l 2 c := by funext c; exact un 2 l 2 c (by first | decide | omega)
    obtain ⟨B', g1, g2, g3⟩ := ih n (j + 1) (v + B1 2 l 2 j) B1 (by first | decide | omega) (by first | decide | omega) (by first | decide | omega) (by rw [un 2 l 5 _ (by first | decide | omega)]; exact h5)
    rw [e2, un 2 l 2 j (by first | decide | omega)] at g1 g2
    refine ⟨B', ?_, fun c c0 c1 => ?_, fun c y k x nn => by rw [g3 c y k x (by first | decide | omega), un c y k x (by first | decide | omega)]⟩
    · rw [un 2 l 2 j (by first | decide | omega), g1, smR, Int.add_assoc]
    · by_cases z : c = j
      · rw [z, g3 2 l 3 j (by first | decide | omega), u3, show (j - j).toNat = 0 by omega, smR, Int.add_zero]
      · rw [g2 c (by first | decide | omega) c1, show (c - j).toNat = (c - (j + 1)).toNat + 1 by omega, smR]
        omega
theorem C_x83X {F : zF} {l7 l6 l5 ln e : Int} (hK : 60000 ≤ K.1) (hl : 0 ≤ l ∧ l < K.2 2) (hn : 0 ≤ ln ∧ ln < 100) (h6 : 0 < l6 ∧ l6 ≤ 4000) (he : e ≤ 100) : ∀ (d N : Nat) (a v : Int) (B : zB), a + d = e → 0 ≤ a → d < N → B 2 l 7 (ln + 1) = e → (∀ t, 0 ≤ t → t < e → 0 ≤ B 2 l 5 t ∧ B 2 l 5 t ≤ B 2 l 5 (t + 1) ∧ B 2 l 5 (t + 1) ≤ 3200) → ∃ B', f_Layout_setXs_83 K N a l7 l6 l5 v l ln F B = some (0, F, B') ∧ (∀ t c, a ≤ t → t < e → B 2 l 5 t ≤ c → c < B 2 l 5 (t + 1) → B' 2 l 3 c = v + 6 * (t - a + 1) + smR (fun c => B 2 l 2 c) (B 2 l 5 a) (c - B 2 l 5 a).toNat + zdv (l7 * (c - l5)) l6) ∧ ∀ c y k x, ¬ (c = 2 ∧ y = l ∧ k = 3 ∧ B 2 l 5 a ≤ x ∧ x < B 2 l 5 e) → B' c y k x = B c y k x := by
  intro d
  induction d with
  | zero =>
    intro N a v B ha a0 hN h7 h5
    obtain ⟨n, rfl⟩ : ∃ n, N = n + 1 := ⟨N - 1, (by first | decide | omega)⟩
    rw [f_Layout_setXs_83, if_pos hl, if_pos (by first | decide | omega), if_pos (by unfold r32; omega), h7, if_pos (by unfold r32; omega), if_pos (by first | decide | omega)]
    exact ⟨B, rfl, fun t c a b => (by first | decide | omega), fun _ _ _ _ _ => rfl⟩
  | succ d ih =>
    intro N a v B ha a0 hN h7 h5
    obtain ⟨n, rfl⟩ : ∃ n, N = n + 1 := ⟨N - 1, (by first | decide | omega)⟩
    have k5 := h5 a a0 (by first | decide | omega)
    -- first columns rise
    have mono : ∀ (m : Nat) (t : Int), a + 1 ≤ t → t + m ≤ e → B 2 l 5 t ≤ B 2 l 5 (t + m) := by
      intro m
      induction m with
      | zero => intro t _ _; rw [show t + ((0 : Nat) : Int) = t by omega]; exact Int.le_refl _
      | succ m ihm =>
        intro t t0 t1
        have a1 := ihm t t0 (by first | decide | omega)
        have a2 := (h5 (t + m) (by first | decide | omega) (by first | decide | omega)).2.1
        rw [show t + ((m + 1 : Nat) : Int) = t + (m : Int) + 1 by omega]
        omega
    have me : B 2 l 5 (a + 1) ≤ B 2 l 5 e := by
      have := mono (e - (a + 1)).toNat (a + 1) (Int.le_refl _) (by first | decide | omega)
      rw [show a + 1 + ((e - (a + 1)).toNat : Int) = e by omega] at this
      exact this
    obtain ⟨B1, g1, g2, g3⟩ := C_x108X (K := K) (l := l) (F := F) (l7 := l7) (l6 := l6) (l5 := l5) (ln := ln) (rec := f_Layout_setXs_83 K n) (a := a) (e := B 2 l 5 (a + 1)) hl (by first | decide | omega) h6 k5.2.2 (B 2 l 5 (a + 1) - B 2 l 5 a).toNat K.1 (B 2 l 5 a) (v + 6) B (by first | decide | omega) k5.1 (by first | decide | omega) rfl
    have e5 : ∀ t, B1 2 l 5 t = B 2 l 5 t := fun t => g3 2 l 5 t (by first | decide | omega)
    have e2 : (fun c => B1 2 l 2 c) = fun c => B 2 l 2 c := by funext c; exact g3 2 l 2 c (by first | decide | omega)
    rw [f_Layout_setXs_83, if_pos hl, if_pos (by first | decide | omega), if_pos (by unfold r32; omega), h7, if_pos (by unfold r32; omega), if_neg (by first | decide | omega), if_pos (by first | decide | omega), g1]
    obtain ⟨B', q1, q2, q3⟩ := ih n (a + 1) (v + 6 + smR (fun c => B 2 l 2 c) (B 2 l 5 a) (B 2 l 5 (a + 1) - B 2 l 5 a).toNat) B1 (by first | decide | omega) (by first | decide | omega) (by first | decide | omega) (by rw [g3 2 l 7 _ (by first | decide | omega)]; exact h7) (fun t t0 t1 => by rw [e5, e5]; exact h5 t t0 t1)
    rw [e5, e5] at q3
    refine ⟨B', q1, fun t c t0 t1 c0 c1 => ?_, fun c y k x nn => by rw [q3 c y k x (by first | decide | omega), g3 c y k x (by first | decide | omega)]⟩
    by_cases z : t = a
    · rw [z] at c0 c1 ⊢
      rw [q3 2 l 3 c (by first | decide | omega), g2 c c0 c1]
      omega
    · have k := q2 t c (by first | decide | omega) t1 (by rw [e5]; exact c0) (by rw [e5]; exact c1)
      rw [e2, e5] at k
      have lt : B 2 l 5 (a + 1) ≤ B 2 l 5 t := by
        have := mono (t - (a + 1)).toNat (a + 1) (Int.le_refl _) (by first | decide | omega)
        rw [show a + 1 + ((t - (a + 1)).toNat : Int) = t by omega] at this
        exact this
      have sp : smR (fun c => B 2 l 2 c) (B 2 l 5 a) (c - B 2 l 5 a).toNat = smR (fun c => B 2 l 2 c) (B 2 l 5 a) (B 2 l 5 (a + 1) - B 2 l 5 a).toNat + smR (fun c => B 2 l 2 c) (B 2 l 5 (a + 1)) (c - B 2 l 5 (a + 1)).toNat := by
        rw [show (c - B 2 l 5 a).toNat = (B 2 l 5 (a + 1) - B 2 l 5 a).toNat + (c - B 2 l 5 (a + 1)).toNat by omega, smR_t, show B 2 l 5 a + ((B 2 l 5 (a + 1) - B 2 l 5 a).toNat : Int) = B 2 l 5 (a + 1) by omega]
      rw [k, sp]
      omega
theorem xV_f {fi wd n i t c : Int} {B B' : zB} (h : ∀ k x, ¬ k = 3 → B' 2 l k x = B 2 l k x) : xV fi wd n l i t c B' = xV fi wd n l i t c B := by
  have e2 : (fun c => B' 2 l 2 c) = fun c => B 2 l 2 c := by funext c; exact h 2 c (by decide)
  unfold xV
  rw [e2, h 7 _ (by decide), h 7 _ (by decide), h 8 _ (by decide), h 5 _ (by decide), h 5 _ (by decide)]
theorem LYs_f {nb n : Int} {B B' : zB} (h : LYs l nb n B) (b : ∀ k x, ¬ k = 3 → B' 2 l k x = B 2 l k x) : LYs l nb n B' := by
  obtain ⟨h1, h2, h3, h4⟩ := h
  refine ⟨h1, h2, fun i i0 i1 => by rw [b 7 _ (by decide), b 7 _ (by decide), b 8 _ (by decide)]; exact h3 i i0 i1, fun t t0 t1 => by rw [b 5 _ (by decide), b 5 _ (by decide)]; exact h4 t t0 t1⟩
theorem LYs_5 {nb n : Int} {B : zB} (h : LYs l nb n B) : ∀ (m : Nat) (t : Int), 0 ≤ t → t + m ≤ nb → B 2 l 5 t ≤ B 2 l 5 (t + m) := by
  intro m
  induction m with
  | zero => intro t _ _; rw [show t + ((0 : Nat) : Int) = t by omega]; exact Int.le_refl _
  | succ m ihm =>
    intro t t0 t1
    have a1 := ihm t t0 (by first | decide | omega)
    have a2 := (h.2.2.2 (t + m) (by first | decide | omega) (by first | decide | omega)).2.1
    rw [show t + ((m + 1 : Nat) : Int) = t + (m : Int) + 1 by omega]
    omega
theorem LYs_m {nb n a b : Int} {B : zB} (h : LYs l nb n B) (a0 : 0 ≤ a) (ab : a ≤ b) (b1 : b ≤ nb) : B 2 l 5 a ≤ B 2 l 5 b := by
  have := LYs_5 h (b - a).toNat a a0 (by first | decide | omega)
  rw [show a + ((b - a).toNat : Int) = b by omega] at this
  exact this
theorem C_b148X {F : zF} {wd nb : Int} (hK : 60000 ≤ K.1) (hl : 0 ≤ l ∧ l < K.2 2) (hw : 0 ≤ wd ∧ wd ≤ 2000) : ∀ (d N : Nat) (i : Int) (B : zB), i + d = F 2 l 0 → 0 ≤ i → d < N → PQl K V p F B → LYs l nb (F 2 l 0) B → ∃ B', f_Layout_breakLines_148 K N i l p wd F B = some (F 2 l 0, F, B') ∧ (∀ k t c, i ≤ k → k < F 2 l 0 → B 2 l 7 k ≤ t → t < B 2 l 7 (k + 1) → B 2 l 5 t ≤ c → c < B 2 l 5 (t + 1) → B' 2 l 3 c = xV (F 6 p 2) wd (F 2 l 0) l k t c B) ∧ (∀ c y k x, ¬ (c = 2 ∧ y = l ∧ k = 3) → B' c y k x = B c y k x) ∧ (i < F 2 l 0 → ∀ x, x < B 2 l 5 (B 2 l 7 i) → B' 2 l 3 x = B 2 l 3 x) := by
  intro d
  induction d with
  | zero =>
    intro N i B hi i0 hN h hS
    obtain ⟨n, rfl⟩ : ∃ n, N = n + 1 := ⟨N - 1, (by first | decide | omega)⟩
    have s1 := hS.1
    rw [f_Layout_breakLines_148, if_pos hl, if_pos (by unfold r32; omega), if_pos (by unfold r32; omega), if_pos (by first | decide | omega)]
    exact ⟨B, rfl, fun k t c a b => (by first | decide | omega), fun _ _ _ _ _ => rfl, fun _ _ _ => rfl⟩
  | succ d ih =>
    intro N i B hi i0 hN h hS
    obtain ⟨n, rfl⟩ : ∃ n, N = n + 1 := ⟨N - 1, (by first | decide | omega)⟩
    obtain ⟨s1, s2, s3, s4⟩ := hS
    have hS' : LYs l nb (F 2 l 0) B := ⟨s1, s2, s3, s4⟩
    have hi3 := s3 i i0 (by first | decide | omega)
    have f5 : 0 ≤ B 2 l 5 (B 2 l 7 i) ∧ B 2 l 5 (B 2 l 7 i) ≤ 3200 := by
      have := s4 (B 2 l 7 i) hi3.1 (by first | decide | omega)
      omega
    have f5' : B 2 l 5 (B 2 l 7 i) ≤ B 2 l 5 (B 2 l 7 (i + 1)) := LYs_m hS' hi3.1 (by first | decide | omega) hi3.2.2.1
    have f5u : B 2 l 5 (B 2 l 7 (i + 1)) ≤ 3200 := by
      have := s4 (B 2 l 7 (i + 1) - 1) (by first | decide | omega) (by first | decide | omega)
      rw [show B 2 l 7 (i + 1) - 1 + 1 = B 2 l 7 (i + 1) by omega] at this
      exact this.2.2
    have zm : 0 < zmax (B 2 l 5 (B 2 l 7 (i + 1)) - B 2 l 5 (B 2 l 7 i)) 1 ∧ zmax (B 2 l 5 (B 2 l 7 (i + 1)) - B 2 l 5 (B 2 l 7 i)) 1 ≤ 4000 := by unfold zmax; split <;> omega
    have o83 := fun s => C_x83X (K := K) (l := l) (F := F) (l7 := s) (l6 := zmax (B 2 l 5 (B 2 l 7 (i + 1)) - B 2 l 5 (B 2 l 7 i)) 1) (l5 := B 2 l 5 (B 2 l 7 i)) (ln := i) (e := B 2 l 7 (i + 1)) hK hl (by first | decide | omega) zm (by first | decide | omega) (B 2 l 7 (i + 1) - B 2 l 7 i).toNat K.1 (B 2 l 7 i) (ldV (F 6 p 2) (B 2 l 7 i)) B (by first | decide | omega) hi3.1 (by first | decide | omega) rfl (fun t t0 t1 => s4 t t0 (by first | decide | omega))
    have sx : ∃ B1, f_Layout_setXs K l p i wd F B = some (0, F, B1) ∧ (∀ t c, B 2 l 7 i ≤ t → t < B 2 l 7 (i + 1) → B 2 l 5 t ≤ c → c < B 2 l 5 (t + 1) → B1 2 l 3 c = xV (F 6 p 2) wd (F 2 l 0) l i t c B) ∧ ∀ c y k x, ¬ (c = 2 ∧ y = l ∧ k = 3 ∧ B 2 l 5 (B 2 l 7 i) ≤ x ∧ x < B 2 l 5 (B 2 l 7 (i + 1))) → B1 c y k x = B c y k x := by
      unfold f_Layout_setXs f_Layout_setXs_73
      rw [if_pos hl, if_pos (by first | decide | omega), C_leadX h (by unfold r32; omega), zb_s, if_pos (by first | decide | omega), if_pos (by first | decide | omega), if_pos (by first | decide | omega), if_pos (by unfold r32; omega), if_pos (by unfold r32; omega), if_pos (by unfold r32; omega)]
      by_cases c : F 2 l 0 ≤ i + 1
      · rw [if_pos c, if_pos hl, if_pos (by first | decide | omega)]
        obtain ⟨B1, g1, g2, g3⟩ := o83 0
        refine ⟨B1, g1, fun t c' t0 t1 c0 c1 => ?_, g3⟩
        rw [g2 t c' t0 t1 c0 c1]
        unfold xV
        rw [if_pos c]
      · rw [if_neg c, if_pos (by first | decide | omega), if_pos (by have := hi3.2.2.2; unfold r32 at *; omega), if_pos hl, if_pos (by first | decide | omega)]
        obtain ⟨B1, g1, g2, g3⟩ := o83 (zmax (wd - B 2 l 8 i) 0)
        refine ⟨B1, g1, fun t c' t0 t1 c0 c1 => ?_, g3⟩
        rw [g2 t c' t0 t1 c0 c1]
        unfold xV
        rw [if_neg c]
    obtain ⟨B1, g1, g2, g3⟩ := sx
    have n3 : ∀ k x, ¬ k = 3 → B1 2 l k x = B 2 l k x := fun k x nk => g3 2 l k x (by first | decide | omega)
    rw [f_Layout_breakLines_148, if_pos hl, if_pos (by unfold r32; omega), if_pos (by unfold r32; omega), if_neg (by first | decide | omega), g1, zb_s]
    obtain ⟨B', q1, q2, q3, q4⟩ := ih n (i + 1) B1 (by first | decide | omega) (by first | decide | omega) (by first | decide | omega) (PQ_f (l := l) h lyF_r (fun c y k x nn => g3 c y k x (by first | decide | omega))) (LYs_f hS' n3)
    refine ⟨B', q1, fun k t c k0 k1 t0 t1 c0 c1 => ?_, fun c y k x nn => by rw [q3 c y k x nn, g3 c y k x (by first | decide | omega)], fun _ x hx => ?_⟩
    · by_cases z : k = i
      · subst z
        have ce : c < B 2 l 5 (B 2 l 7 (k + 1)) := by
          have := LYs_m hS' (show 0 ≤ t + 1 by omega) (show t + 1 ≤ B 2 l 7 (k + 1) by omega) hi3.2.2.1
          omega
        by_cases y : k + 1 < F 2 l 0
        · have := q4 y c (by rw [n3 7 _ (by decide), n3 5 _ (by decide)]; exact ce)
          rw [this]
          exact g2 t c t0 t1 c0 c1
        · -- the last line
          have dz : d = 0 := by omega
          subst dz
          have e148 : ∀ C : zB, f_Layout_breakLines_148 K n (k + 1) l p wd F C = some (F 2 l 0, F, C) := fun C => by
            obtain ⟨n', rfl⟩ : ∃ m, n = m + 1 := ⟨n - 1, (by first | decide | omega)⟩
            rw [f_Layout_breakLines_148, if_pos hl, if_pos (by unfold r32; omega), if_pos (by unfold r32; omega), if_pos (by first | decide | omega)]
          rw [e148 B1] at q1
          cases q1
          exact g2 t c t0 t1 c0 c1
      · have := q2 k t c (by first | decide | omega) k1 (by rw [n3 7 _ (by decide)]; exact t0) (by rw [n3 7 _ (by decide)]; exact t1) (by rw [n3 5 _ (by decide)]; exact c0) (by rw [n3 5 _ (by decide)]; exact c1)
        rw [this, xV_f n3]
    · by_cases y : i + 1 < F 2 l 0
      · rw [q4 y x (by rw [n3 7 _ (by decide), n3 5 _ (by decide)]; omega), g3 2 l 3 x (by first | decide | omega)]
      · have dz : d = 0 := by omega
        subst dz
        have e148 : ∀ C : zB, f_Layout_breakLines_148 K n (i + 1) l p wd F C = some (F 2 l 0, F, C) := fun C => by
          obtain ⟨n', rfl⟩ : ∃ m, n = m + 1 := ⟨n - 1, (by first | decide | omega)⟩
          rw [f_Layout_breakLines_148, if_pos hl, if_pos (by unfold r32; omega), if_pos (by unfold r32; omega), if_pos (by first | decide | omega)]
        rw [e148 B1] at q1
        cases q1
        exact g3 2 l 3 x (by first | decide | omega)
end
end
end
section
section
/-! ===== the lines of a piece, both sides ===== -/
theorem P_brk {K : zK} {Km : Nat} {V p l w wd : Int} {F : zF} {B : zB} {Fm : zF} {Bm : zB} (hK : 60000 ≤ K.1) (hKm : 200 ≤ Km) (h : PQl K V p F B) (hl : 0 ≤ l ∧ l < K.2 2) (w0 : 0 ≤ w ∧ w < 3) (hE : ENl V p w F B Bm) (hX : CXk V w Fm Bm) (hC : XC Bm) (hR : RDW V w Fm Bm) (e2 : F 6 p 2 = Fm 13 w 2) (e4 : F 6 p 4 = Fm 13 w 4) (e5 : F 6 p 5 = Fm 13 w 5) (e7 : F 6 p 7 = Fm 13 w 7) (hw : 0 ≤ wd ∧ wd ≤ 2000) : ∃ n F' B' Fm' Bm', f_Layout_breakLines K l p wd F B = some (n, F', B') ∧ f_M_lines_44 Km Km (Fm 13 w 7 - 1) w wd Fm (zup4 Bm 14 0 59 (Fm 13 w 7) 0) = some (n, Fm', Bm') ∧ (F' 2 l 0 = n ∧ Fm' 13 w 48 = n) ∧ (0 < n → LYf (F 6 p 2) (F 6 p 7) l w F' B' Fm' Bm') := by
  have h7 := h.2.2.2.2.2.1
  have hf := h.2.2.1
  have zm : zmin (F 6 p 7) 100 = F 6 p 7 := by unfold zmin; split <;> omega
  obtain ⟨P, hP⟩ := hX
  rw [← e4, ← e5, ← e7] at hP
  have hpl : ∀ b x, aNt V w b (800 * V) Bm x → x < barV (F 6 p 4) (F 6 p 5) := fun b x hx => by
    obtain ⟨x0, y, u, a0, a1, a2, a3, a4, a5, a6, a7⟩ := hx
    obtain ⟨q, ⟨q0, q1⟩, q2, q3⟩ := rd_q (y := y) hR a0 a1 a2 a3
    have e : x = q := nd_inj x0 q0 (by rw [← a5, q2]) (by rw [← a6, q3])
    rw [e, e4, e5]
    exact q1
  -- columns
  obtain ⟨F1, B1, x1, x2, x3, x4, x5, x6⟩ := C_setX0 (K := K) (V := V) (p := p) (l := l) (w := w) (nb := F 6 p 7) (T := barV (F 6 p 4) (F 6 p 5)) (F := F) (B := B) (Bm := Bm) hK h hl hE rfl hpl h7
  obtain ⟨c1, c2⟩ := CC_u hP x5 x6
  have hq1 := PQ_f h x2 x3
  have f1 : ∀ k, F1 6 p k = F 6 p k := fun k => x2 6 p k (by first | decide | omega)
  -- choosing
  have hW : ∀ t, 0 ≤ (fun t => Bm 13 w 46 t) t ∧ (fun t => Bm 13 w 46 t) t ≤ 400000 := fun t => (hC w t).2.2
  have ub : ∀ k x, ¬ (k = 10 ∧ x = F 6 p 7) → (zup4 B1 2 l 10 (F 6 p 7) 0) 2 l k x = B1 2 l k x := fun k x nn => by rw [zup4_v, if_neg (by first | decide | omega)]
  obtain ⟨B2, y1, y2, y3⟩ := C_ch12X (K := K) (V := V) (p := p) (l := l) (F := F1) (nb := F 6 p 7) (wd := wd) (W := fun t => Bm 13 w 46 t) hK hl h7 hw hW (F 6 p 7).toNat K.1 (F 6 p 7 - 1) (zup4 B1 2 l 10 (F 6 p 7) 0) (by first | decide | omega) (by first | decide | omega) (by first | decide | omega) (PQ_f hq1 lyF_r lyB_w) (fun t t0 t1 => by rw [ub 6 t (by first | decide | omega)]; exact (c2 t t0 t1).1.symm) ⟨up_s, fun i i0 i1 => (by first | decide | omega)⟩
  rw [f1 2] at y3
  have y1' : f_Layout_choose K l p (F 6 p 7) wd F1 B1 = some (0, F1, B2) := by
    unfold f_Layout_choose
    rw [if_pos hl, if_pos (by first | decide | omega)]; exact y1
  have b2 : ∀ c y k x, ¬ (c = 2 ∧ y = l ∧ (k = 10 ∨ k = 11)) → B2 c y k x = B1 c y k x := fun c y k x nn => by rw [y2 c y k x nn, zup4_v, if_neg (by first | decide | omega)]
  have mu : ∀ c y k x, ¬ (c = 14 ∧ y = 0 ∧ k = 59 ∧ x = Fm 13 w 7) → (zup4 Bm 14 0 59 (Fm 13 w 7) 0) c y k x = Bm c y k x := fun c y k x nn => by rw [zup4_v, if_neg nn]
  obtain ⟨Bm1, z1, z2, z3⟩ := L_l44X (K := Km) (w := w) (F := Fm) (nb := Fm 13 w 7) (wd := wd) (W := fun t => Bm 13 w 46 t) hKm w0 (by rw [← e2]; exact hf) rfl (by rw [← e7]; exact h7) hw hW (Fm 13 w 7).toNat Km (Fm 13 w 7 - 1) (zup4 Bm 14 0 59 (Fm 13 w 7) 0) (by first | decide | omega) (by first | decide | omega) (by first | decide | omega) (fun t _ _ => mu 13 w 46 t (by first | decide | omega)) ⟨by show (zup4 Bm 14 0 59 (Fm 13 w 7) 0) 14 0 59 (Fm 13 w 7) = 0; rw [zup4_v, if_pos ⟨rfl, rfl, rfl, rfl⟩], fun i i0 i1 => (by first | decide | omega)⟩
  have mb : ∀ c y k x, ¬ (c = 14 ∧ y = 0 ∧ (k = 59 ∨ k = 60)) → Bm1 c y k x = Bm c y k x := fun c y k x nn => by rw [z2 c y k x nn, mu c y k x (by first | decide | omega)]
  rw [← e2, ← e7] at z3
  have du := fun i => DPp_u y3 z3 (F 6 p 7 - i).toNat i
  -- lines
  have G0 : ∀ c y k, ¬ (c = 13 ∧ y = w ∧ (k = 47 ∨ k = 48)) → (zup3 (zup3 Fm 13 w 48 0) 13 w 47 wd) c y k = Fm c y k := fun c y k nn => by rw [zup3_v, if_neg (by first | decide | omega), zup3_v, if_neg (by first | decide | omega)]
  have G47 : (zup3 (zup3 Fm 13 w 48 0) 13 w 47 wd) 13 w 47 = wd := by rw [zup3_v, if_pos ⟨rfl, rfl, rfl⟩]
  have G48 : (zup3 (zup3 Fm 13 w 48 0) 13 w 47 wd) 13 w 48 = 0 := by rw [zup3_v, if_neg (by first | decide | omega), zup3_v, if_pos ⟨rfl, rfl, rfl⟩]
  generalize zup3 (zup3 Fm 13 w 48 0) 13 w 47 wd = G at z1 G0 G47 G48
  have fz : ∀ c y k, ¬ (c = 2 ∧ y = l ∧ k = 0) → (zup3 F1 2 l 0 0) c y k = F1 c y k := fun c y k nn => by rw [zup3_v, if_neg nn]
  have hq2 : PQl K V p (zup3 F1 2 l 0 0) B2 := PQ_f hq1 (lyF_w (by first | decide | omega)) (fun c y k x nn => b2 c y k x (by first | decide | omega))
  obtain ⟨n, F3, B3, Fm3, Bm3, k1, k2, ⟨k3, k4, k5, k6⟩, k7, k8, k9, k10, k11⟩ := P_lns (K := K) (V := V) (p := p) (l := l) (w := w) (Km := Km) (nb := F 6 p 7) (wd := wd) (fi := F 6 p 2) (W := fun t => Bm 13 w 46 t) (L := fun i => B2 2 l 10 i) (M := fun i => B2 2 l 11 i - i) (F0 := zup3 F1 2 l 0 0) (B0 := B2) (Fm0 := G) (Bm0 := Bm1) hK hKm hl w0 hq2 (by rw [fz 6 p 2 (by first | decide | omega)]; exact f1 2) (by rw [G0 13 w 2 (by first | decide | omega)]; exact e2.symm) (by rw [G0 13 w 7 (by first | decide | omega)]; exact e7.symm) h7 hw hW (fun t t0 t1 => by rw [b2 2 l 6 t (by first | decide | omega)]; exact (c2 t t0 t1).1.symm) (fun t t0 t1 => mb 13 w 46 t (by first | decide | omega)) y3 (fun _ _ _ => rfl) (fun i i0 i1 => by show B2 2 l 11 i = i + (B2 2 l 11 i - i); omega) (fun i i0 i1 => ((du i i0 (by first | decide | omega)).2 i1).symm) (F 6 p 7).toNat K.1 Km 0 0 (zup3 F1 2 l 0 0) B2 G Bm1 (by first | decide | omega) (by first | decide | omega) (by decide) (by decide) (by first | decide | omega) (by first | decide | omega) (by rw [zup3_v, if_pos ⟨rfl, rfl, rfl⟩]) G48 (fun _ _ _ _ => rfl) (fun _ _ _ _ _ => rfl) (fun _ _ _ _ => rfl) (fun _ _ _ _ _ => rfl) ⟨fun _ => rfl, fun j j0 j1 => (by first | decide | omega)⟩
  -- the xs
  have u7 : ∀ k x, ¬ (k = 7 ∧ x = n) → (zup4 B3 2 l 7 n (F 6 p 7)) 2 l k x = B3 2 l k x := fun k x nn => by rw [zup4_v, if_neg (by first | decide | omega)]
  have u7n : (zup4 B3 2 l 7 n (F 6 p 7)) 2 l 7 n = F 6 p 7 := up_s
  have b7 : ∀ c y k x, ¬ (c = 2 ∧ y = l) → (zup4 B3 2 l 7 n (F 6 p 7)) c y k x = B3 c y k x := fun c y k x nn => by rw [zup4_v, if_neg (by first | decide | omega)]
  generalize hB4 : zup4 B3 2 l 7 n (F 6 p 7) = B4 at u7 u7n b7
  have r3 : ∀ k x, ¬ (k = 7 ∨ k = 8 ∨ k = 9 ∨ k = 10 ∨ k = 11) → B4 2 l k x = B1 2 l k x := fun k x nn => by rw [u7 k x (by first | decide | omega), k8 2 l k x (by first | decide | omega), b2 2 l k x (by first | decide | omega)]
  have ln : ∀ j, 0 ≤ j → j < n → B4 2 l 7 j = Bm3 13 w 49 j ∧ B4 2 l 7 (j + 1) = Bm3 13 w 49 j + Bm3 13 w 50 j ∧ B4 2 l 8 j = Bm3 13 w 51 j ∧ B4 2 l 9 j = Bm3 13 w 52 j ∧ (0 ≤ Bm3 13 w 49 j ∧ 1 ≤ Bm3 13 w 50 j ∧ Bm3 13 w 49 j + Bm3 13 w 50 j ≤ F 6 p 7) := fun j j0 j1 => by
    obtain ⟨q1, q2, q3, q4, q5, _⟩ := k11.2 j j0 j1
    refine ⟨by rw [u7 7 j (by first | decide | omega)]; exact q1, ?_, by rw [u7 8 j (by first | decide | omega)]; exact q4, by rw [u7 9 j (by first | decide | omega)]; exact q5, q2⟩
    by_cases z : j + 1 < n
    · rw [if_pos z] at q3
      rw [u7 7 (j + 1) (by first | decide | omega)]
      exact q3
    · rw [if_neg z] at q3
      rw [show j + 1 = n by omega, u7n]
      exact q3
  have e33 : F3 2 l 0 = n := k3
  have cc : ∀ t, 0 ≤ t → t < F 6 p 7 → 0 ≤ B1 2 l 5 t ∧ B1 2 l 5 t ≤ B1 2 l 5 (t + 1) ∧ B1 2 l 5 (t + 1) ≤ 3200 := fun t t0 t1 => (x6 t t0 t1).1
  have l8 : ∀ j, 0 ≤ j → j < n → r32 (B4 2 l 8 j) ∧ 0 ≤ B4 2 l 8 j := fun j j0 j1 => by
    obtain ⟨_, _, _, q4, _, _, q7⟩ := k11.2 j j0 j1
    rw [u7 8 j (by first | decide | omega), q4]
    exact ⟨by unfold r32; omega, q7.1⟩
  have hS : LYs l (F 6 p 7) (F3 2 l 0) B4 := by
    rw [e33]
    refine ⟨(by first | decide | omega), h7, fun i i0 i1 => ?_, fun t t0 t1 => by rw [r3 5 _ (by first | decide | omega), r3 5 _ (by first | decide | omega)]; exact cc t t0 t1⟩
    obtain ⟨q1, q2, _, _, q3⟩ := ln i i0 i1
    have q4 := l8 i i0 i1
    rw [q1, q2]
    exact ⟨q3.1, (by first | decide | omega), q3.2.2, q4⟩
  have hq4 : PQl K V p F3 B4 := PQ_f (l := l) hq2 (fun c y k nn => k7 c y k (by first | decide | omega)) (fun c y k x nn => by rw [b7 c y k x nn, k8 c y k x (by first | decide | omega)])
  obtain ⟨B5, v1, v2, v3, _⟩ := C_b148X (K := K) (V := V) (p := p) (l := l) (F := F3) (wd := wd) (nb := F 6 p 7) hK hl hw n.toNat K.1 0 B4 (by first | decide | omega) (by decide) (by first | decide | omega) hq4 hS
  have n3 : ∀ k x, ¬ k = 3 → B5 2 l k x = B4 2 l k x := fun k x nk => v3 2 l k x (by first | decide | omega)
  have eC : f_Layout_breakLines K l p wd F B = some (n, F3, B5) := by
    unfold f_Layout_breakLines
    rw [zm, if_pos h.1, if_pos (by unfold r32; omega), if_pos hl, x1, zb_s, y1', zb_s, k1]
    unfold f_Layout_breakLines_135
    rw [if_pos hl, e33, if_pos (by first | decide | omega), hB4, v1, e33]
  refine ⟨n, F3, B5, Fm3, Bm3, eC, by rw [z1]; exact k2, ⟨e33, k4⟩, fun np => ⟨⟨by rw [e33, k4], LYs_f hS n3, by rw [e33]; exact np⟩, ⟨?_, by rw [e33, n3 7 _ (by decide)]; exact u7n⟩, fun j j0 j1 => ?_, fun t t0 t1 => ?_, fun t c t0 t1 c0 c1 => ?_, fun k t c k0 kn t0 t1 c0 c1 => ?_⟩⟩
  · rw [n3 7 _ (by decide), u7 7 0 (by first | decide | omega)]
    exact (k11.2 0 (by decide) np).2.2.2.2.2.1 rfl
  · rw [e33] at j1
    obtain ⟨q1, q2, q3, q4, _⟩ := ln j j0 j1
    rw [n3 7 _ (by decide), n3 7 _ (by decide), n3 8 _ (by decide), n3 9 _ (by decide)]
    exact ⟨q1, q2, q3, q4⟩
  · have q := c1 (by first | decide | omega) t.toNat (by first | decide | omega)
    rw [show ((t.toNat : Nat) : Int) = t by omega] at q
    rw [n3 5 _ (by decide), r3 5 t (by first | decide | omega), k10 13 w 42 t (by first | decide | omega), mb 13 w 42 t (by first | decide | omega)]
    exact q
  · rw [n3 5 _ (by decide), r3 5 _ (by first | decide | omega)] at c0 c1
    obtain ⟨q1, q2⟩ := (c2 t t0 t1).2 c c0 c1
    obtain ⟨q3, _⟩ := (x6 t t0 t1).2.2.2.1 c c0 c1
    rw [n3 1 c (by decide), n3 2 c (by decide), r3 1 c (by first | decide | omega), r3 2 c (by first | decide | omega), k10 13 w 43 c (by first | decide | omega), k10 13 w 44 c (by first | decide | omega), k10 13 w 45 c (by first | decide | omega), mb 13 w 43 c (by first | decide | omega), mb 13 w 44 c (by first | decide | omega), mb 13 w 45 c (by first | decide | omega)]
    exact ⟨q1, q2, q3⟩
  · rw [e33] at kn
    rw [n3 7 _ (by decide)] at t0 t1
    rw [n3 5 _ (by decide)] at c0 c1
    rw [xV_f n3, v2 k t c k0 (by rw [e33]; exact kn) t0 t1 c0 c1, k9 13 w 47 (by first | decide | omega), G47, k7 6 p 2 (by first | decide | omega), fz 6 p 2 (by first | decide | omega), f1 2]
end
end
section
section
/-! ===== the calls of lines, line ===== -/
variable {cc : Int}
theorem PQ_k {K : zK} {V p w : Int} {F Fm : zF} {B Bm : zB} (h : PK K V p w F B Fm Bm) : PQl K V p F B := by
  obtain ⟨⟨h1, h2, h3, h4, h5⟩, ⟨g2, g3, g4, g5, g6, g7⟩, hv⟩ := h
  refine ⟨h1, ⟨h4, h3⟩, g2.2, g4.2, g5.2, g7.2, fun u u0 u1 => ?_⟩
  obtain ⟨hH, m, g, hV, _⟩ := hv u u0 u1
  obtain ⟨_, _, _, _, _, _, _, _, c, nw, qn, gb⟩ := hV
  have c0 := nw.1
  rw [nw.2.1]
  refine ⟨hH.1, c0, fun i i0 i1 => ?_⟩
  obtain ⟨k0, k1, k9, k4, k5, _⟩ := nw.2.2.2.2 i i0 i1
  exact ⟨k1.2, ⟨k9.1, k9.2.1⟩, k5.2, (gb i i0 i1).2.2.2.1⟩
/-- a kept piece's notes, both sides, and their order -/
theorem EN_k {K : zK} {V p w : Int} {F Fm : zF} {B Bm : zB} (h : PK K V p w F B Fm Bm) (na : NAl V p w F B Bm) : ENl V p w F B Bm := fun u u0 u1 => by
  obtain ⟨_, m, g, hV, _⟩ := h.2.2 u u0 u1
  obtain ⟨_, _, _, _, _, _, _, _, c, nw, qn, gb⟩ := hV
  have n10 := nw.2.1
  have n13 := nw.2.2.2.1
  refine ⟨by rw [n13, n10], fun i i0 i1 => ?_⟩
  obtain ⟨k0, k1, k9, k4, k5, _⟩ := nw.2.2.2.2 i i0 (by first | decide | omega)
  obtain ⟨m6, m7, m8, m9, m10, m11, m12, m13⟩ := na u u0 u1 i i0 i1
  exact ⟨k1.1.symm, k9.2.2.1, k9.2.2.2, k5.1.symm, ⟨m7.symm, m12⟩, m13⟩
theorem slotL {Km : Nat} {K : zK} {F Fm : zF} {B Bm : zB} (h : IV cc Km K F B Fm Bm) {a1 : Int} (h1 : r32 a1) : ∃ x y, f_S_pieceAt K 0 a1 F B = some (x, F, B) ∧ f_M_piece Km a1 Fm Bm = some (y, Fm, Bm) ∧ ((x < 0 ∧ y = -1) ∨ ((0 ≤ x ∧ x < K.2 6) ∧ (0 ≤ y ∧ y < 3) ∧ ∃ V, PK K V x y F B Fm Bm ∧ MK V y Fm Bm ∧ PD K V x y F B Fm Bm ∧ (Fm 13 y 48 = 0 ∨ LNok y Fm Bm) ∧ F 6 x 8 < K.2 2 ∧ F 6 x 12 < K.2 9)) := by
  obtain ⟨p, p0, p1, w, w0, w1, hE, hZ⟩ := h
  have hA := hE.1.1
  obtain ⟨n1, n2, n3, n4, n5, n6⟩ := hE.1.2.2.2.2.1
  have hWw := hE.1.2.2.2.2.2.1
  have hF := hE.1.2.2.2.2.2.2.2.2.1
  have s0 := hE.1.2.2.2.2.2.2.2.2.2.1
  have s1 := hE.1.2.2.2.2.2.2.2.2.2.2
  have h12 : 0 < K.2 12 := by have := hA.2.2; omega
  by_cases z : a1 < 0 ∨ 2 ≤ a1
  · exact ⟨-1, -1, C_atx h1 z, L_atx h1 z, Or.inl ⟨(by first | decide | omega), rfl⟩⟩
  · have hl : 0 ≤ a1 ∧ a1 < 2 := by omega
    have go : ∀ q v, B 12 0 3 a1 = q → Bm 14 0 5 a1 = v → 0 ≤ v ∧ v < 3 → SLD K q v F B Fm Bm → LNk q v F B Fm Bm → ∃ x y, f_S_pieceAt K 0 a1 F B = some (x, F, B) ∧ f_M_piece Km a1 Fm Bm = some (y, Fm, Bm) ∧ ((x < 0 ∧ y = -1) ∨ ((0 ≤ x ∧ x < K.2 6) ∧ (0 ≤ y ∧ y < 3) ∧ ∃ V, PK K V x y F B Fm Bm ∧ MK V y Fm Bm ∧ PD K V x y F B Fm Bm ∧ (Fm 13 y 48 = 0 ∨ LNok y Fm Bm) ∧ F 6 x 8 < K.2 2 ∧ F 6 x 12 < K.2 9)) := fun q v eq ev hv hs ln => by
      have x1 := C_at (K := K) (F := F) h12 hl eq
      rcases hs with ⟨q0, m0⟩ | ⟨q0, m0, V, hP, hM, hD⟩
      · have x3 := L_at (Km := Km) (F := Fm) hl ev hv (Or.inl m0)
        rw [if_pos m0] at x3
        exact ⟨q, -1, x1, x3, Or.inl ⟨q0, rfl⟩⟩
      · have x3 := L_at (Km := Km) (F := Fm) hl ev hv (Or.inr m0)
        rw [if_neg (by first | decide | omega)] at x3
        have o := hF q hP.1.1.1 hP.1.1.2
        exact ⟨q, v, x1, x3, Or.inr ⟨hP.1.1, hv, V, hP, hM, hD, (ln q0).1, o.1, o.2.2⟩⟩
    rcases (show a1 = 0 ∨ a1 = 1 by omega) with e | e
    · exact go p0 w0 (by rw [e]; exact n2) (by rw [e]; exact n5) hWw.2.1 (SLD_of s0 hE.2.2.2.1) hE.2.2.2.2.2.2.1
    · exact go p1 w1 (by rw [e]; exact n3) (by rw [e]; exact n6) hWw.2.2.1 (SLD_of s1 hE.2.2.2.2.1) hE.2.2.2.2.2.2.2
theorem IV_xc {Km : Nat} {K : zK} {F Fm : zF} {B Bm : zB} (h : IV cc Km K F B Fm Bm) : XC Bm := by
  obtain ⟨p, p0, p1, w, w0, w1, hE, _⟩ := h
  exact hE.1.2.2.1.2.2.2.2.2.1
theorem p_line {Km : Nat} (a1 a2 a3 : Int) (h1 : r32 a1) (h2 : r32 a2) (h3 : r32 a3) {K : zK} {F Fm : zF} {B Bm : zB} (h : IV cc Km K F B Fm Bm) : ∃ r1 F1 B1 r2 F2 B2, f_S_line K 0 a1 a2 a3 F B = some (r1, F1, B1) ∧ f_M_line Km a1 a2 a3 Fm Bm = some (r2, F2, B2) ∧ IV cc Km K F1 B1 F2 B2 := by
  obtain ⟨x, y, e1, e2, e3⟩ := slotL h h1
  have hU := IV_u h
  refine rd2 h ?_ ?_
  · unfold f_S_line f_S_line_20
    rw [if_pos (IV_12 h), e1, zb_s]
    rcases e3 with ⟨x0, _⟩ | ⟨x0, _, V, hP, hM, hD, ln, l8, _⟩
    · exact zR_i (fun _ => zR_s) (fun a => absurd x0 a)
    · refine zR_i (fun _ => zR_s) (fun _ => zR_g x0 (zR_i (fun _ => zR_s) (fun n8 => zR_g ⟨(by first | decide | omega), l8⟩ (zR_b ?_ (fun _ => zR_s)))))
      obtain ⟨q0, q4, hB⟩ := hU.2.1 (F 6 x 8) (by first | decide | omega) l8
      generalize F 6 x 8 = l at *
      unfold f_Layout_tell f_Layout_tell_12
      have b7 := fun j => (hB j).2.2.2.2.1
      have b5 := fun j => (hB j).2.2.1
      have b8 := fun j => (hB j).2.2.2.2.2.1
      refine zR_g h2 (zR_i (fun _ => zR_s) (fun n2 => zR_g ⟨(by first | decide | omega), l8⟩ (zR_g (by unfold r32; omega) (zR_i (fun l2 => zR_g h3 (zR_i (fun _ => zR_g (by first | decide | omega) (zR_g (by have := b7 a2; unfold r32; omega) zR_s)) (fun _ => zR_i (fun _ => zR_g (by first | decide | omega) (zR_g (by first | decide | omega) (zR_g (by have := b7 a2; have := b7 (a2 + 1); unfold r32; omega) zR_s))) (fun _ => zR_i (fun _ => zR_g (by first | decide | omega) (zR_g (by have := b8 a2; unfold r32; omega) zR_s)) (fun _ => zR_i (fun _ => zR_g (by first | decide | omega) (zR_g (by have := b7 (a2 + 1); omega) (zR_g (by first | decide | omega) (zR_g (by have := b7 a2; omega) (zR_g (by have := b5 (B 2 l 7 a2); have := b5 (B 2 l 7 (a2 + 1)); unfold r32; omega) zR_s))))) (fun _ => zR_i (fun _ => zR_g (by first | decide | omega) zR_s) (fun _ => zR_s))))))) (fun _ => zR_s)))))
  · unfold f_M_line f_M_line_25 f_M_line_101
    rw [e2, zb_s]
    rcases e3 with ⟨_, y0⟩ | ⟨_, y0, V, hP, hM, hD, ln, l8, _⟩
    · exact zR_i (fun _ => zR_s) (fun a => absurd (show y < 0 by omega) a)
    · have hx := IV_xc h
      have h7 := hP.2.1.2.2.2.2.2
      rcases ln with z | ⟨k1, k2, k3, k4, k5, k6⟩
      · exact zR_i (fun _ => zR_s) (fun _ => zR_g h2 (zR_i (fun _ => zR_s) (fun n2 => zR_g y0 (zR_g (by rw [z]; decide) (zR_i (fun a => absurd a (by rw [z]; omega)) (fun _ => zR_s))))))
      · refine zR_i (fun _ => zR_s) (fun _ => zR_g h2 (zR_i (fun _ => zR_s) (fun n2 => zR_g y0 (zR_g (by unfold r32; omega) (zR_i (fun l2 => ?_) (fun _ => zR_s))))))
        obtain ⟨j1, j2, j3, j4⟩ := k3 a2 (by first | decide | omega) l2
        have c1 := (hx y (Bm 13 y 49 a2)).1
        have c2 := (hx y (Bm 13 y 49 a2 + Bm 13 y 50 a2)).1
        have lc : zR (f_M_lineColumns Km y a2 Fm Bm) Fm Bm := by
          unfold f_M_lineColumns
          exact zR_g y0 (zR_g (by first | decide | omega) (zR_g (by first | decide | omega) (zR_g (by first | decide | omega) zR_s)))
        refine zR_g h3 (zR_i (fun _ => zR_g (by first | decide | omega) (zR_g (by unfold r32; omega) zR_s)) (fun _ => zR_i (fun _ => zR_g (by first | decide | omega) (zR_g (by unfold r32; omega) zR_s)) (fun _ => zR_i (fun _ => zR_g (by first | decide | omega) (zR_g j4 zR_s)) (fun _ => zR_i (fun _ => ?_) (fun _ => zR_i (fun _ => zR_g (by first | decide | omega) zR_s) (fun _ => zR_s))))))
        unfold f_M_lineColumns
        rw [if_pos y0, if_pos (by first | decide | omega), if_pos (by first | decide | omega), if_pos (by first | decide | omega), zb_s]
        exact zR_g (by unfold r32; omega) zR_s
theorem q_lines {Km : Nat} (a1 a2 : Int) (h1 : r32 a1) (h2 : r32 a2) {K : zK} {F Fm : zF} {B Bm : zB} (h : IV cc Km K F B Fm Bm) : ∃ r1 F1 B1 K1 r2 F2 B2, f_S_lines K 0 a1 a2 F B = some (r1, F1, B1, K1) ∧ f_M_lines Km a1 a2 Fm Bm = some (r2, F2, B2) ∧ IV cc Km K1 F1 B1 F2 B2 ∧ r1 = r2 := by
  have hI := h
  have hXC := IV_xc h
  obtain ⟨p, p0, p1, w, w0, w1, hE, hW, hO, h7, hX, hK⟩ := h
  have hA := hE.1.1
  obtain ⟨n1, n2, n3, n4, n5, n6⟩ := hE.1.2.2.2.2.1
  have hWw := hE.1.2.2.2.2.2.1
  have hF := hE.1.2.2.2.2.2.2.2.2.1
  have s0 := hE.1.2.2.2.2.2.2.2.2.2.1
  have s1 := hE.1.2.2.2.2.2.2.2.2.2.2
  have hU := hE.2.2.2.2.2.1
  have gs := hE.1.2.2.1.1
  have h12 : 0 < K.2 12 := by have := hA.2.2; omega
  have g2 : 0 ≤ K.2 2 := by have := hA.2.2; omega
  have outC : ∀ q, q < 0 → f_S_pieceAt K 0 a1 F B = some (q, F, B) → f_S_lines K 0 a1 a2 F B = some (-1, F, B, K) := fun q q0 c => by
    unfold f_S_lines f_S_lines_24
    rw [if_pos ⟨(by first | decide | omega), h12⟩, c]
    simp only [zbN_s]
    rw [if_pos q0]
  have outL : f_M_piece Km a1 Fm Bm = some (-1, Fm, Bm) → f_M_lines Km a1 a2 Fm Bm = some (-1, Fm, Bm) := fun l => by
    unfold f_M_lines f_M_lines_24
    rw [l, zb_s, if_pos (by decide)]
  by_cases z : a1 < 0 ∨ 2 ≤ a1
  · exact ⟨_, _, _, _, _, _, _, outC (-1) (by decide) (C_atx h1 z), outL (L_atx h1 z), hI, rfl⟩
  · have hl : 0 ≤ a1 ∧ a1 < 2 := by omega
    have go : ∀ q v, B 12 0 3 a1 = q → Bm 14 0 5 a1 = v → 0 ≤ v ∧ v < 3 → ((q = p0 ∧ v = w0) ∨ (q = p1 ∧ v = w1)) → SLD K q v F B Fm Bm → LNk q v F B Fm Bm → ∃ r1 F1 B1 K1 r2 F2 B2, f_S_lines K 0 a1 a2 F B = some (r1, F1, B1, K1) ∧ f_M_lines Km a1 a2 Fm Bm = some (r2, F2, B2) ∧ IV cc Km K1 F1 B1 F2 B2 ∧ r1 = r2 := fun q v eq ev hv hc hs ln => by
      have x1 := C_at (K := K) (F := F) h12 hl eq
      rcases hs with ⟨q0, m0⟩ | ⟨q0, m0, V, hP, hM, hD⟩
      · have x3 := L_at (Km := Km) (F := Fm) hl ev hv (Or.inl m0)
        rw [if_pos m0] at x3
        exact ⟨_, _, _, _, _, _, _, outC q q0 x1, outL x3, hI, rfl⟩
      have x3 := L_at (Km := Km) (F := Fm) hl ev hv (Or.inr m0)
      rw [if_neg (by first | decide | omega)] at x3
      have hq := hP.1.1
      by_cases b1 : a2 < 200 ∨ 2000 < a2
      · refine ⟨-1, F, B, K, -1, Fm, Bm, ?_, ?_, hI, rfl⟩
        · unfold f_S_lines f_S_lines_24
          rw [if_pos ⟨(by first | decide | omega), h12⟩, x1]
          simp only [zbN_s]
          rw [if_neg (by first | decide | omega), if_pos h2]
          by_cases b2 : a2 < 200
          · rw [if_pos b2]
          · rw [if_neg b2, if_neg (by first | decide | omega)]
        · unfold f_M_lines f_M_lines_24
          rw [x3, zb_s, if_neg (by first | decide | omega), if_pos h2]
          by_cases b2 : a2 < 200
          · rw [if_pos b2]
          · rw [if_neg b2, if_neg (by first | decide | omega)]
      -- the reference
      have k7 := hP.2.1.2.2.2.2.2
      have n0 : 0 ≤ Fm 13 v 7 ∧ Fm 13 v 7 ≤ 100 := by omega
      have hwd : 0 ≤ a2 ∧ a2 ≤ 2000 := by omega
      have k2 : -7 ≤ Fm 13 v 2 ∧ Fm 13 v 2 ≤ 7 := by have := hP.2.1.1; omega
      have hKm : 200 ≤ Km := by have := hA.2.1; omega
      obtain ⟨B1, y1, y2, y3⟩ := L_l44 (K := Km) (F := Fm) (nb := Fm 13 v 7) (wd := a2) hKm hv k2 rfl n0 hwd (Fm 13 v 7).toNat Km (Fm 13 v 7 - 1) (zup4 Bm 14 0 59 (Fm 13 v 7) 0) (by first | decide | omega) (by first | decide | omega) (by have := hA.2.1; omega) (fun x => by rw [zup4_v, if_neg (by first | decide | omega)]; exact (hXC v x).2.2) (fun i i0 i1 => by rw [show i = Fm 13 v 7 by omega, zup4_v, if_pos ⟨rfl, rfl, rfl, rfl⟩]; omega) (fun i i0 i1 => (by first | decide | omega))
      have gF0 : ∀ c y k, ¬ (c = 13 ∧ y = v ∧ (k = 47 ∨ k = 48)) → (zup3 (zup3 Fm 13 v 48 0) 13 v 47 a2) c y k = Fm c y k := fun c y k n => by rw [zup3_v, if_neg (by first | decide | omega), zup3_v, if_neg (by first | decide | omega)]
      have mB1 : ∀ c y k x, ¬ (c = 14 ∧ y = 0 ∧ (k = 59 ∨ k = 60)) → B1 c y k x = Bm c y k x := fun c y k x n => by rw [y2 c y k x n, zup4_v, if_neg (by first | decide | omega)]
      have e47 : (zup3 (zup3 Fm 13 v 48 0) 13 v 47 a2) 13 v 47 = a2 := by rw [zup3_v, if_pos ⟨rfl, rfl, rfl⟩]
      have e48 : (zup3 (zup3 Fm 13 v 48 0) 13 v 47 a2) 13 v 48 = 0 := by rw [zup3_v, if_neg (by first | decide | omega), zup3_v, if_pos ⟨rfl, rfl, rfl⟩]
      generalize zup3 (zup3 Fm 13 v 48 0) 13 v 47 a2 = G at y1 gF0 e47 e48
      obtain ⟨r', Fm', Bm', z1, z2, z3, i', z4, z5⟩ := L_l177 (K := Km) (nb := Fm 13 v 7) (wd := a2) (F0 := G) (B0 := B1) hKm hv (by rw [gF0 13 v 2 (by first | decide | omega)]; exact k2) (gF0 13 v 7 (by first | decide | omega)) n0 hwd (fun x => by rw [mB1 13 v 46 x (by first | decide | omega)]; exact (hXC v x).2.2) y3 (Fm 13 v 7).toNat Km 0 0 G B1 (by first | decide | omega) (by have := hA.2.1; omega) (by decide) e48 (fun _ _ _ _ => rfl) (fun _ _ _ _ _ => rfl) ⟨(by first | decide | omega), fun j j0 j1 => (by first | decide | omega), fun i => (by first | decide | omega), fun j j0 j1 => (by first | decide | omega), fun i => (by first | decide | omega), fun _ => rfl⟩
      have g : ∀ c y k, ¬ (c = 14 ∧ y = 0 ∧ k ≤ 1) → ¬ (c = 13 ∧ y = v ∧ (k = 47 ∨ k = 48)) → Fm' c y k = Fm c y k := fun c y k _ n => by rw [z2 c y k (by first | decide | omega), gF0 c y k n]
      have m : ∀ c y k x, ¬ (c = 14 ∧ y = 0 ∧ (k = 59 ∨ k = 60)) → ¬ (c = 13 ∧ y = v ∧ 49 ≤ k ∧ k ≤ 52) → Bm' c y k x = Bm c y k x := fun c y k x n n' => by rw [z3 c y k x n', mB1 c y k x n]
      have hL0 : Fm' 13 v 48 = 0 ∨ LNok v Fm' Bm' := by
        have g7 : Fm' 13 v 7 = Fm 13 v 7 := g 13 v 7 (by first | decide | omega) (by first | decide | omega)
        have g47 : Fm' 13 v 47 = a2 := by rw [z2 13 v 47 (by first | decide | omega)]; exact e47
        obtain ⟨q1, q2, q3, q4, q5, q6⟩ := z5
        by_cases e : i' = 0
        · exact Or.inl (by rw [z4]; exact e)
        · refine Or.inr ⟨(by first | decide | omega), by rw [g47]; exact h2, fun j j0 j1 => ?_, q3 (by first | decide | omega), fun j j0 j1 => q4 j j0 (by first | decide | omega), ?_⟩
          · rw [g7]; exact q2 j j0 (by first | decide | omega)
          · rw [g7, z4]; exact q5 (by first | decide | omega)
      have eM : f_M_lines Km a1 a2 Fm Bm = some (r', Fm', Bm') := by
        unfold f_M_lines
        rw [x3, zb_s, if_neg (by first | decide | omega), if_pos h2, if_neg (by first | decide | omega), if_pos (by first | decide | omega), if_pos hv, if_pos (by first | decide | omega), y1]
        exact z1
      -- the class
      have fin : ∀ (K1 : zK) (F1 : zF) (B1 : zB) (s : Int), K1.1 = K.1 → ((s = F 6 q 8 ∧ K1 = K) ∨ (F 6 q 8 < 0 ∧ s = K.2 2 ∧ K1 = (K.1, zinN K.2 2))) → 0 ≤ s → s < K1.2 2 → F1 6 q 8 = s → (∀ c y k, y < K.2 c → ¬ (c = 6 ∧ y = q ∧ k = 8) → ¬ (c = 2 ∧ y = s) → F1 c y k = F c y k) → (∀ c y k x, y < K.2 c → ¬ (c = 2 ∧ y = s) → B1 c y k x = B c y k x) → LBl s B1 → ∃ r F2 B2, f_S_lines_44 K1 q a2 F1 B1 = some (r, F2, B2, K1) ∧ IV cc Km K1 F2 B2 Fm' Bm' ∧ r = r' := fun K1 F1 B1 s k1 sc sb0 sb1 e8 f1 b1' hB => by
        have kc : ∀ c, ¬ c = 2 → K1.2 c = K.2 c := fun c hc => by
          rcases sc with ⟨_, z⟩ | ⟨_, _, z⟩
          · rw [z]
          · rw [z]; show zinN K.2 2 c = K.2 c; rw [zinN_v, if_neg hc]
        have kk : ∀ c, K.2 c ≤ K1.2 c := fun c => by
          rcases sc with ⟨_, z⟩ | ⟨_, _, z⟩
          · rw [z]; exact Int.le_refl _
          · rw [z]; show K.2 c ≤ zinN K.2 2 c
            by_cases e2 : c = 2
            · rw [e2, zinN_v, if_pos rfl]; omega
            · rw [zinN_v, if_neg e2]; exact Int.le_refl _
        have hq4 : ∀ u, 0 ≤ u → u < V → (0 ≤ B 6 q 0 u ∧ B 6 q 0 u < K.2 4) := fun u u0 u1 => (hP.2.2 u u0 u1).1.1
        have hi1 : ∀ y i, 0 ≤ y → y < K.2 4 → 0 ≤ i → i < 200 → B 4 y 5 i < K.2 1 := fun y i a b c d => (gs.2.2.2.1 y i a b c d).2
        have hP1 : PK K1 V q v F1 B1 Fm Bm := by
          refine PK_e hP kk (fun k hk => f1 6 q k hq.2 (by first | decide | omega) (by first | decide | omega)) (by funext u; exact b1' 6 q 0 u hq.2 (by first | decide | omega)) (fun u u0 u1 => by funext k; exact f1 4 _ k (hq4 u u0 u1).2 (by first | decide | omega) (by first | decide | omega)) (fun u u0 u1 => by funext k x; exact b1' 4 _ k x (hq4 u u0 u1).2 (by first | decide | omega)) (fun u i u0 u1 i0 i1 => ?_) (fun u i u0 u1 i0 i1 => ?_) (fun _ _ _ => rfl) (fun _ _ _ => rfl)
          · funext k; exact f1 1 _ k (hi1 _ i (hq4 u u0 u1).1 (hq4 u u0 u1).2 i0 i1) (by first | decide | omega) (by first | decide | omega)
          · funext k x; exact b1' 1 _ k x (hi1 _ i (hq4 u u0 u1).1 (hq4 u u0 u1).2 i0 i1) (by first | decide | omega)
        obtain ⟨r, F2, B2, e, fl, bl, lx⟩ := C_brk (wd := a2) (by rw [k1]; exact hK) (PQ_k hP1) ⟨sb0, sb1⟩ hwd hB
        have f : ∀ c y k, y < K.2 c → ¬ (c = 6 ∧ y = q ∧ k = 8) → ¬ (c = 2 ∧ y = s) → F2 c y k = F c y k := fun c y k hy n n' => by rw [fl c y k (by first | decide | omega), f1 c y k hy n n']
        have b : ∀ c y k x, y < K.2 c → ¬ (c = 2 ∧ y = s) → B2 c y k x = B c y k x := fun c y k x hy n => by rw [bl c y k x n, b1' c y k x hy n]
        have hY : LYk q v F2 B2 Fm' Bm' ∧ r = r' := by
          obtain ⟨n, Fc, Bc, Fn, Bn, u1, u2, ⟨u3, u4⟩, u5⟩ := P_brk (K := K1) (Km := Km) (V := V) (p := q) (l := s) (w := v) (wd := a2) (F := F1) (B := B1) (Fm := Fm) (Bm := Bm) (by rw [k1]; exact hK) hKm (PQ_k hP1) ⟨sb0, sb1⟩ hv (EN_k hP1 (by
            have e1 := hP.1.2.2.2.1
            have nl := (ln q0).2.1
            rw [e1] at nl
            exact NAl_e nl (fun u _ _ => b1' 6 q 0 u hq.2 (by first | decide | omega)) (fun u u0 u1 => f1 4 _ 10 (hq4 u u0 u1).2 (by first | decide | omega) (by first | decide | omega)) (fun u u0 u1 k x => b1' 4 _ k x (hq4 u u0 u1).2 (by first | decide | omega)) (fun _ _ _ _ => rfl))) (by
            have e1 := hP.1.2.2.2.1
            obtain ⟨S, sg, mx, sx⟩ := (ln q0).2.2.1
            rw [e1] at mx
            exact mx.2.1) hXC (PK_r hP1) hP1.2.1.1.1 hP1.2.1.2.2.1.1 hP1.2.1.2.2.2.1.1 hP1.2.1.2.2.2.2.2.1 hwd
          rw [e] at u1
          rw [y1, z1] at u2
          simp only [Option.some.injEq, Prod.mk.injEq] at u1 u2
          obtain ⟨v1, v2, v3⟩ := u1
          obtain ⟨v4, v5, v6⟩ := u2
          rw [← v2, ← v3, ← v5, ← v6] at u5
          rw [← v2] at u3
          rw [← v5] at u4
          refine ⟨?_, by rw [v1, v4]⟩
          unfold LYk
          rw [fl 6 q 8 (by first | decide | omega), e8, fl 6 q 2 (by first | decide | omega), fl 6 q 7 (by first | decide | omega)]
          by_cases zn : 0 < n
          · exact Or.inr ⟨sb0, u5 zn⟩
          · have n00 : n = 0 := by
              have := lx.1
              rw [u3] at this
              omega
            exact Or.inl ⟨by rw [u4]; exact n00, fun _ => by rw [u3]; exact n00⟩
        have hL' : LNk q v F2 B2 Fm' Bm' := fun _ => ⟨hL0, by
          have e1 := hP.1.2.2.2.1
          have nl := (ln q0).2.1
          rw [e1] at nl
          rw [f 6 q 1 hq.2 (by first | decide | omega) (by first | decide | omega), e1]
          exact NAl_e nl (fun u _ _ => b 6 q 0 u hq.2 (by first | decide | omega)) (fun u u0 u1 => f 4 _ 10 (hq4 u u0 u1).2 (by first | decide | omega) (by first | decide | omega)) (fun u u0 u1 k x => b 4 _ k x (hq4 u u0 u1).2 (by first | decide | omega)) (fun k x _ _ => m 13 v k x (by first | decide | omega) (by first | decide | omega)), by
          have o9 := (hF q hq.1 hq.2).2.2
          rw [f 6 q 1 hq.2 (by first | decide | omega) (by first | decide | omega)]
          exact XTk_e (ln q0).2.2.1 ⟨f 6 q 12 hq.2 (by first | decide | omega) (by first | decide | omega), f 6 q 13 hq.2 (by first | decide | omega) (by first | decide | omega)⟩ (fun _ k => ⟨f 9 _ k o9 (by first | decide | omega) (by first | decide | omega), fun x => b 9 _ k x o9 (by first | decide | omega)⟩) (fun k hk => g 13 v k (by first | decide | omega) (by first | decide | omega)) (fun k x hk => m 13 v k x (by first | decide | omega) (by first | decide | omega)), hY.1⟩
        have l5 := kc 5 (by decide)
        have l9 := kc 9 (by decide)
        have l6 := kc 6 (by decide)
        have hU' : IU cc K1 F2 B2 Fm' Bm' := by
          obtain ⟨c0, u1, u2, u3, u4, u5, u6⟩ := hU
          have kn : IKn K1 F2 := by
            rcases sc with ⟨z1, z2⟩ | ⟨z1, z2, z3⟩
            · refine IKn_f c0.2 (by rw [z2]) (by rw [z2]) (by rw [z2]) (by rw [z2]) (fun y k y0 y1 hk => ?_)
              by_cases e : y = q ∧ k = 8
              · rw [e.1, e.2, fl 6 q 8 (by first | decide | omega), e8, z1]
              · exact f 6 y k y1 (by first | decide | omega) (by first | decide | omega)
            · have o := c0.2
              have k2'' : K1.2 2 = K.2 2 + 1 := by rw [z3]; show zinN K.2 2 2 = K.2 2 + 1; rw [zinN_v, if_pos rfl]
              have g' := ngk_o (k := 8) (K := K) (K' := K1) (q := q) (F := F) (F' := F2) l6 o.1 hq z1 (by rw [fl 6 q 8 (by first | decide | omega), e8]; exact sb0) (fun y y0 y1 n => f 6 y 8 y1 (by first | decide | omega) (by first | decide | omega))
              unfold IKn at *
              rw [ngk_e (k := 9) (K' := K1) (F' := F2) l6 (fun y y0 y1 => f 6 y 9 y1 (by first | decide | omega) (by first | decide | omega)), ngk_e (k := 12) (K' := K1) (F' := F2) l6 (fun y y0 y1 => f 6 y 12 y1 (by first | decide | omega) (by first | decide | omega)), l6, k2'', l5, l9]
              omega
          refine ⟨⟨c0.1, kn⟩, fun l l0 l1 => ?_, fun x x0 x1 => ?_, fun t t0 t1 => ?_, fun y y0 y1 => ?_, fun i i0 i1 z => ?_, TQm_e u6 (fun k x _ => m 14 0 k x (by first | decide | omega) (by first | decide | omega))⟩
          · by_cases e : l = s
            · rw [e]; exact lx
            · have hl : l < K.2 2 := by
                rcases sc with ⟨_, z⟩ | ⟨_, zs, z⟩
                · rw [z] at l1; exact l1
                · rw [z] at l1
                  have l1 : l < zinN K.2 2 2 := l1
                  rw [zinN_v, if_pos rfl] at l1
                  omega
              obtain ⟨a1, a2, a3⟩ := u1 l l0 hl
              refine ⟨by rw [f 2 l 0 hl (by first | decide | omega) (by first | decide | omega)]; exact a1, by rw [f 2 l 4 hl (by first | decide | omega) (by first | decide | omega)]; exact a2, fun j => ?_⟩
              have bb : ∀ k x, B2 2 l k x = B 2 l k x := fun k x => b 2 l k x hl (by first | decide | omega)
              rw [bb, bb, bb, bb, bb, bb, bb, bb, bb]
              exact a3 j
          · have hx : x < K.2 5 := by omega
            exact PXu_e (u2 x x0 hx) (fun k _ => f 5 x k hx (by first | decide | omega) (by first | decide | omega))
          · have ht : t < K.2 9 := by omega
            have gg : ∀ k, F2 9 t k = F 9 t k := fun k => f 9 t k ht (by first | decide | omega) (by first | decide | omega)
            have bb : ∀ k x, B2 9 t k x = B 9 t k x := fun k x => b 9 t k x ht (by first | decide | omega)
            have := u3 t t0 ht
            unfold STu at *
            simp only [gg, bb]
            exact this
          · have hy : y < K.2 6 := by omega
            rw [f 6 y 13 hy (by first | decide | omega) (by first | decide | omega), f 6 y 12 hy (by first | decide | omega) (by first | decide | omega)]
            exact u4 y y0 hy
          · rw [g 13 i 53 (by first | decide | omega) (by first | decide | omega)] at z
            exact PMu_e (u5 i i0 i1 z) (fun k k0 k1 => g 13 i k (by first | decide | omega) (by first | decide | omega))
        refine ⟨r, F2, B2, ?_, ⟨p, p0, p1, w, w0, w1, IE_ob (c0 := 2) (kk' := 8) (s := s) hE hc hP hM m0 (Or.inl ⟨rfl, rfl⟩) k1 ⟨sb0, sb1⟩ sc (by rw [fl 6 q 8 (by first | decide | omega)]; exact e8) (fun c y k hy n n' => f c y k hy (by first | decide | omega) n') (fun c y k x hy n => b c y k x hy n) g m hU' hL', ?_, ?_, ?_, ?_, by rw [k1]; exact hK⟩, hY.2⟩
        · unfold f_S_lines_44
          rw [if_pos ⟨hq.1, (by first | decide | omega)⟩, e8, if_pos ⟨sb0, sb1⟩, e]
          simp only [zbN_s]
        · have e1 : F2 0 1 1 = F 0 1 1 := f 0 1 1 (by have := hA.2.2; omega) (by first | decide | omega) (by first | decide | omega)
          refine ⟨by rw [e1, g 14 0 71 (by first | decide | omega) (by first | decide | omega)]; exact hW.1, by rw [e1]; exact hW.2.1, fun j j0 j1 => ?_⟩
          rw [e1] at j1
          rw [b 0 1 0 j (by have := hA.2.2; omega) (by first | decide | omega), m 14 0 70 j (by first | decide | omega) (by first | decide | omega)]; exact hW.2.2 j j0 j1
        · exact IOp_g hO (kc 8 (by decide)) (f 12 0 8 h12 (by first | decide | omega) (by first | decide | omega)) (f 12 0 9 h12 (by first | decide | omega) (by first | decide | omega)) (fun o k ho => f 8 o k ho (by first | decide | omega) (by first | decide | omega)) (fun o k x ho => b 8 o k x ho (by first | decide | omega)) (g 14 0 72 (by first | decide | omega) (by first | decide | omega)) (fun k x hk => m 14 0 k x (by first | decide | omega) (by first | decide | omega))
        · rw [f 7 0 4 (by have := hA.2.2; omega) (by first | decide | omega) (by first | decide | omega)]; exact h7
        · intro y y0 y1
          rw [b 12 0 1 y h12 (by first | decide | omega), m 14 0 4 y (by first | decide | omega) (by first | decide | omega)]; exact hX y y0 y1
      have l8 := (hF q hq.1 hq.2).1
      by_cases n8 : F 6 q 8 < 0
      · -- lines are made
        have k2' : zinN K.2 2 2 = K.2 2 + 1 := by rw [zinN_v, if_pos rfl]
        have k6' : zinN K.2 2 6 = K.2 6 := by rw [zinN_v, if_neg (by decide)]
        obtain ⟨r, F2, B2, e, hV2⟩ := fin (K.1, zinN K.2 2) (zup3 (zinF F 2 (K.2 2) [0, 0, 0, 0, 0, 0, 0, 0, 0, 0, 0, 0, 0]) 6 q 8 (K.2 2)) (zinB B 2 (K.2 2) (fun _ _ => 0)) (K.2 2) rfl (Or.inr ⟨n8, rfl, rfl⟩) g2 (by show K.2 2 < zinN K.2 2 2; omega) (by rw [zup3_v, if_pos ⟨rfl, rfl, rfl⟩]) (fun c y k hy n n' => by rw [zup3_v, if_neg n, zinF_v, if_neg n']) (fun c y k x hy n => by rw [zinB_v, if_neg n]) (fun j => by
          have bz : ∀ k, (zinB B 2 (K.2 2) (fun _ _ => 0)) 2 (K.2 2) k j = 0 := fun k => by rw [zinB_v, if_pos ⟨rfl, rfl⟩]
          rw [bz, bz, bz, bz, bz, bz, bz, bz, bz]
          refine ⟨by decide, by decide, by decide, by decide, by decide, by decide, by decide, by decide, by decide⟩)
        refine ⟨r, F2, B2, _, r', Fm', Bm', ?_, eM, hV2⟩
        unfold f_S_lines f_Layout_init f_S_lines_41
        rw [if_pos ⟨(by first | decide | omega), h12⟩, x1]
        simp only [zbN_s]
        rw [if_neg (by first | decide | omega), if_pos h2, if_neg (by first | decide | omega), if_pos (by first | decide | omega), if_pos hq, if_pos n8, if_pos hq.2, if_pos g2]
        simp only [zbM_s]
        rw [if_pos (show 0 ≤ K.2 2 ∧ K.2 2 < zinN K.2 2 2 by omega), if_pos (show 0 ≤ q ∧ q < zinN K.2 2 6 by omega), if_pos (show 0 ≤ q ∧ q < zinN K.2 2 6 by omega), if_pos (show K.2 2 < zinN K.2 2 2 by omega)]
        exact e
      · obtain ⟨r, F2, B2, e, hV2⟩ := fin K F B (F 6 q 8) rfl (Or.inl ⟨rfl, rfl⟩) (by first | decide | omega) l8 rfl (fun _ _ _ _ _ _ => rfl) (fun _ _ _ _ _ _ => rfl) (hU.2.1 (F 6 q 8) (by first | decide | omega) l8).2.2
        refine ⟨r, F2, B2, K, r', Fm', Bm', ?_, eM, hV2⟩
        unfold f_S_lines
        rw [if_pos ⟨(by first | decide | omega), h12⟩, x1]
        simp only [zbN_s]
        rw [if_neg (by first | decide | omega), if_pos h2, if_neg (by first | decide | omega), if_pos (by first | decide | omega), if_pos hq, if_neg n8]
        exact e
    rcases (show a1 = 0 ∨ a1 = 1 by omega) with e | e
    · exact go p0 w0 (by rw [e]; exact n2) (by rw [e]; exact n5) hWw.2.1 (Or.inl ⟨rfl, rfl⟩) (SLD_of s0 hE.2.2.2.1) hE.2.2.2.2.2.2.1
    · exact go p1 w1 (by rw [e]; exact n3) (by rw [e]; exact n6) hWw.2.2.1 (Or.inr ⟨rfl, rfl⟩) (SLD_of s1 hE.2.2.2.2.1) hE.2.2.2.2.2.2.2
theorem p_lines {Km : Nat} (a1 a2 : Int) (h1 : r32 a1) (h2 : r32 a2) {K : zK} {F Fm : zF} {B Bm : zB} (h : IV cc Km K F B Fm Bm) : ∃ r1 F1 B1 K1 r2 F2 B2, f_S_lines K 0 a1 a2 F B = some (r1, F1, B1, K1) ∧ f_M_lines Km a1 a2 Fm Bm = some (r2, F2, B2) ∧ IV cc Km K1 F1 B1 F2 B2 := by
  obtain ⟨r1, F1, B1, K1, r2, F2, B2, x1, x2, x3, _⟩ := q_lines a1 a2 h1 h2 h
  exact ⟨r1, F1, B1, K1, r2, F2, B2, x1, x2, x3⟩
end
end
section
section
/-! ===== the call of x ===== -/
variable {cc : Int}
theorem nd_64 {p : Int} (p0 : 0 ≤ p ∧ p ≤ 1000000000000) : r64 (nu p) ∧ r64 (de p) := by
  have g := gc_pos (a := p) (b := WW) (by decide)
  have q1 : 0 ≤ p / gc p WW := Int.ediv_nonneg p0.1 (by first | decide | omega)
  have q2 : p / gc p WW ≤ p := Int.ediv_le_self _ p0.1
  have q3 : 0 ≤ WW / gc p WW := Int.ediv_nonneg (by decide) (by first | decide | omega)
  have q4 : WW / gc p WW ≤ WW := Int.ediv_le_self _ (by decide)
  have e : WW = 812851200 := rfl
  unfold nu de r64
  omega
theorem C_cx27 {K : zK} {l b v : Int} {F : zF} {B : zB} (hl : 0 ≤ l ∧ l < K.2 2) (hB : LBl l B) (hb : 0 ≤ b ∧ b < 100) (rv : r64 v) : ∀ (d N : Nat) (j : Int), 3200 ≤ j + d → 0 ≤ j → j ≤ 3200 → d < N → zR (f_Layout_columnX_27 K N j l b v F B) F B := by
  have b5 := (hB (b + 1)).2.2.1
  intro d
  induction d with
  | zero =>
    intro N j hj j0 j1 hN
    obtain ⟨n, rfl⟩ : ∃ n, N = n + 1 := ⟨N - 1, (by first | decide | omega)⟩
    rw [f_Layout_columnX_27, if_pos hl, if_pos (by first | decide | omega), if_pos (by unfold r32; omega), if_pos (by unfold r32; omega), if_pos (by first | decide | omega)]
    exact zR_s
  | succ d ih =>
    intro N j hj j0 j1 hN
    obtain ⟨n, rfl⟩ : ∃ n, N = n + 1 := ⟨N - 1, (by first | decide | omega)⟩
    rw [f_Layout_columnX_27]
    exact zR_g hl (zR_g (by first | decide | omega) (zR_g (by unfold r32; omega) (zR_g (by unfold r32; omega) (zR_i (fun _ => zR_s) (fun c => zR_g (by first | decide | omega) (zR_g (hB j).1 (zR_g rv (zR_i (fun _ => zR_s) (fun _ => ih n (j + 1) (by first | decide | omega) (by first | decide | omega) (by first | decide | omega) (by first | decide | omega))))))))))
section
variable {K : Nat} {w : Int} {F : zF} {B : zB}
theorem m42 {V nb : Int} (h : CDn V w nb 3200 B) : ∀ (d : Nat) (s t : Int), s + d = t → 0 ≤ s → t ≤ nb → B 13 w 42 s ≤ B 13 w 42 t := by
  intro d
  induction d with
  | zero =>
    intro s t hs s0 t1
    rw [show s = t by omega]; exact Int.le_refl _
  | succ d ih =>
    intro s t hs s0 t1
    have k := ih (s + 1) t (by first | decide | omega) (by first | decide | omega) t1
    have := (h.1 s s0 (by first | decide | omega)).2.1
    omega
theorem L_x199 {V nb b j col : Int} (w0 : 0 ≤ w ∧ w < 3) (hM : CDn V w nb 3200 B) (hL : LNok w F B) (h7 : F 13 w 7 = nb) (n0 : 0 ≤ nb ∧ nb ≤ 100) (j0 : 0 ≤ j ∧ j < F 13 w 48) (hb : B 13 w 49 j ≤ b ∧ b < B 13 w 49 j + B 13 w 50 j) (hc : B 13 w 42 b ≤ col ∧ col < B 13 w 42 (b + 1)) : ∀ (d N : Nat) (i v : Int), col ≤ i + d → 0 ≤ i → d < N → i ≤ 3200 → zR (f_M_x_199 K N i v col (B 13 w 42 (B 13 w 49 j)) j w F B) F B := by
  obtain ⟨k1, k2, k3, k4, k5, k6⟩ := hL
  obtain ⟨q1, q2, q3, q4⟩ := k3 j j0.1 j0.2
  have c3 := (hM.1 b (by first | decide | omega) (by first | decide | omega)).2.2
  have c0 := (hM.1 b (by first | decide | omega) (by first | decide | omega)).1
  have m1 := m42 hM (b - B 13 w 49 j).toNat (B 13 w 49 j) b (by first | decide | omega) q1 (by first | decide | omega)
  have m2 := m42 hM (B 13 w 49 j + B 13 w 50 j - (b + 1)).toNat (b + 1) (B 13 w 49 j + B 13 w 50 j) (by first | decide | omega) (by first | decide | omega) (by first | decide | omega)
  have m3 : B 13 w 42 (B 13 w 49 j + B 13 w 50 j) ≤ 3200 := by
    have := (hM.1 (B 13 w 49 j + B 13 w 50 j - 1) (by first | decide | omega) (by first | decide | omega)).2.2
    rw [show B 13 w 49 j + B 13 w 50 j - 1 + 1 = B 13 w 49 j + B 13 w 50 j by omega] at this
    exact this
  have m4 := (hM.1 (B 13 w 49 j) q1 (by first | decide | omega)).1
  have o258 : ∀ v s, (s = 0 ∨ s = 1) → zR (f_M_x_258 K v col (B 13 w 42 (B 13 w 49 j)) j w s F B) F B := fun v s hs => by
    unfold f_M_x_258 f_M_x_301 f_M_lineColumns
    refine zR_g (by unfold r32; omega) (zR_i (fun _ => zR_s) (fun _ => zR_g w0 (zR_g (by first | decide | omega) ?_)))
    rw [if_pos w0, if_pos (by first | decide | omega), if_pos (by first | decide | omega), if_pos (by first | decide | omega), zb_s]
    exact zR_g (iI_n0 (by first | decide | omega) (by unfold r32; omega)) zR_s
  have o257 : ∀ v, zR (f_M_x_257 K v col (B 13 w 42 (B 13 w 49 j)) j w F B) F B := fun v => o258 v 0 (Or.inl rfl)
  intro d
  induction d with
  | zero =>
    intro N i v hi i0 hN i1
    obtain ⟨n, rfl⟩ : ∃ n, N = n + 1 := ⟨N - 1, (by first | decide | omega)⟩
    rw [f_M_x_199, if_pos (by unfold r32; omega), if_pos (by unfold r32; omega), if_pos (by first | decide | omega)]
    exact zR_g w0 (zR_g (by first | decide | omega) (zR_g q4 (zR_g k2 (zR_i (fun _ => o257 v) (fun _ => zR_g (by unfold r32; omega) (zR_g (by unfold r32; omega) (zR_i (fun _ => o257 v) (fun _ => o258 v 1 (Or.inr rfl)))))))))
  | succ d ih =>
    intro N i v hi i0 hN i1
    obtain ⟨n, rfl⟩ : ∃ n, N = n + 1 := ⟨N - 1, (by first | decide | omega)⟩
    rw [f_M_x_199]
    exact zR_g (by unfold r32; omega) (zR_g (by unfold r32; omega) (zR_i (fun _ => zR_g w0 (zR_g (by first | decide | omega) (zR_g q4 (zR_g k2 (zR_i (fun _ => o257 v) (fun _ => zR_g (by unfold r32; omega) (zR_g (by unfold r32; omega) (zR_i (fun _ => o257 v) (fun _ => o258 v 1 (Or.inr rfl)))))))))) (fun c => zR_g w0 (zR_g (by first | decide | omega) (ih n (i + 1) _ (by first | decide | omega) (by first | decide | omega) (by first | decide | omega) (by first | decide | omega))))))
theorem L_x117 {V nb b j yn J : Int} (hK : 5000 ≤ K) (w0 : 0 ≤ w ∧ w < 3) (hM : CDm V w nb 3200 B) (hL : LNok w F B) (h2 : -7 ≤ F 13 w 2 ∧ F 13 w 2 ≤ 7) (h7 : F 13 w 7 = nb) (n0 : 0 ≤ nb ∧ nb ≤ 100) (j0 : 0 ≤ j ∧ j < F 13 w 48) (hb : B 13 w 49 j ≤ b ∧ b < B 13 w 49 j + B 13 w 50 j) (hy : 0 ≤ yn ∧ yn < 3200) (r3 : r64 (B 13 w 32 yn) ∧ r64 (B 13 w 33 yn)) (hJ : B 13 w 42 b ≤ J ∧ J < B 13 w 42 (b + 1)) (e3 : B 13 w 43 J = B 13 w 32 yn ∧ B 13 w 44 J = B 13 w 33 yn) : ∀ (d N : Nat) (col : Int), col + d = J → B 13 w 42 b ≤ col → d < N → zR (f_M_x_117 K N col (B 13 w 42 (B 13 w 49 j)) j b yn w F B) F B := by
  have hL' := hL
  obtain ⟨k1, k2, k3, k4, k5, k6⟩ := hL
  obtain ⟨q1, q2, q3, q4⟩ := k3 j j0.1 j0.2
  have c3 := (hM.1.1 b (by first | decide | omega) (by first | decide | omega)).2.2
  have c0 := (hM.1.1 b (by first | decide | omega) (by first | decide | omega)).1
  have c4 := (hM.1.1 (B 13 w 49 j) q1 (by first | decide | omega)).1
  have m1 := m42 hM.1 (b - B 13 w 49 j).toNat (B 13 w 49 j) b (by first | decide | omega) q1 (by first | decide | omega)
  have fnd : ∀ col, B 13 w 42 b ≤ col → col ≤ J → zR (zbind (f_M_ahead K w (B 13 w 49 j) F B) (fun r31 F31 B31 => f_M_x_199 K K (B 13 w 42 (B 13 w 49 j)) (r31 + (6 * ((b - (B31 13 w 49 j)) + 1))) col (B 13 w 42 (B 13 w 49 j)) j w F31 B31)) F B := fun col l0 l1 => by
    obtain ⟨r, e, _⟩ := L_ahd (K := K) (F := F) (B := B) w0 h2 (a := B 13 w 49 j) (by unfold r32; omega)
    rw [e, zb_s]
    exact L_x199 w0 hM.1 hL' h7 n0 j0 hb (by first | decide | omega) 3200 K _ _ (by first | decide | omega) c4 (by first | decide | omega) (by first | decide | omega)
  intro d
  induction d with
  | zero =>
    intro N col hc l0 hN
    obtain ⟨n, rfl⟩ : ∃ n, N = n + 1 := ⟨N - 1, (by first | decide | omega)⟩
    have r4 := hM.2 b col (by first | decide | omega) (by first | decide | omega) (by first | decide | omega) (by first | decide | omega)
    have ec : col = J := by omega
    rw [f_M_x_117]
    refine zR_g w0 (zR_g (by first | decide | omega) (zR_g hy (zR_g r4.1 (zR_g r3.1 (zR_i (fun _ => zR_g r4.2 (zR_g r3.2 (zR_i (fun _ => zR_g (by first | decide | omega) (fnd col l0 (by first | decide | omega))) (fun a => absurd (zcmp_0.mpr (by rw [ec]; exact e3.2)) a)))) (fun a => absurd (zcmp_0.mpr (by rw [ec]; exact e3.1)) a))))))
  | succ d ih =>
    intro N col hc l0 hN
    obtain ⟨n, rfl⟩ : ∃ n, N = n + 1 := ⟨N - 1, (by first | decide | omega)⟩
    have r4 := hM.2 b col (by first | decide | omega) (by first | decide | omega) (by first | decide | omega) (by first | decide | omega)
    have nxt : zR (f_M_x_157 (f_M_x_117 K n) K col (B 13 w 42 (B 13 w 49 j)) j b yn w F B) F B := ih n (col + 1) (by first | decide | omega) (by first | decide | omega) (by first | decide | omega)
    rw [f_M_x_117]
    exact zR_g w0 (zR_g (by first | decide | omega) (zR_g hy (zR_g r4.1 (zR_g r3.1 (zR_i (fun _ => zR_g r4.2 (zR_g r3.2 (zR_i (fun _ => zR_g (by first | decide | omega) (fnd col l0 (by first | decide | omega))) (fun _ => nxt)))) (fun _ => nxt))))))
theorem L_x63 {V nb b yn J : Int} (hK : 5000 ≤ K) (w0 : 0 ≤ w ∧ w < 3) (hM : CDm V w nb 3200 B) (hL : LNok w F B) (h2 : -7 ≤ F 13 w 2 ∧ F 13 w 2 ≤ 7) (h7 : F 13 w 7 = nb) (n0 : 0 ≤ nb ∧ nb ≤ 100) (hb : 0 ≤ b ∧ b < nb) (hy : 0 ≤ yn ∧ yn < 3200) (r3 : r64 (B 13 w 32 yn) ∧ r64 (B 13 w 33 yn)) (hJ : B 13 w 42 b ≤ J ∧ J < B 13 w 42 (b + 1)) (e3 : B 13 w 43 J = B 13 w 32 yn ∧ B 13 w 44 J = B 13 w 33 yn) : ∀ (d N : Nat) (j : Int), j + d = F 13 w 48 - 1 → 0 ≤ j → d < N → B 13 w 49 j ≤ b → zR (f_M_x_63 K N j b yn w F B) F B := by
  have hL' := hL
  obtain ⟨k1, k2, k3, k4, k5, k6⟩ := hL
  have c3 := (hM.1.1 b hb.1 hb.2).2.2
  have c0 := (hM.1.1 b hb.1 hb.2).1
  intro d
  induction d with
  | zero =>
    intro N j hj j0 hN l0
    obtain ⟨n, rfl⟩ : ∃ n, N = n + 1 := ⟨N - 1, (by first | decide | omega)⟩
    obtain ⟨q1, q2, q3, q4⟩ := k3 j j0 (by first | decide | omega)
    rw [← show j = F 13 w 48 - 1 by omega] at k6
    rw [f_M_x_63]
    exact zR_g w0 (zR_g (by first | decide | omega) (zR_g (by unfold r32; omega) (zR_g (by unfold r32; omega) (zR_i (fun c => zR_g (by first | decide | omega) (zR_g (by first | decide | omega) (L_x117 hK w0 hM hL' h2 h7 n0 (by first | decide | omega) (by first | decide | omega) hy r3 hJ e3 (J - B 13 w 42 b).toNat K _ (by first | decide | omega) (Int.le_refl _) (by first | decide | omega)))) (fun c => (by first | decide | omega))))))
  | succ d ih =>
    intro N j hj j0 hN l0
    obtain ⟨n, rfl⟩ : ∃ n, N = n + 1 := ⟨N - 1, (by first | decide | omega)⟩
    obtain ⟨q1, q2, q3, q4⟩ := k3 j j0 (by first | decide | omega)
    rw [f_M_x_63]
    exact zR_g w0 (zR_g (by first | decide | omega) (zR_g (by unfold r32; omega) (zR_g (by unfold r32; omega) (zR_i (fun c => zR_g (by first | decide | omega) (zR_g (by first | decide | omega) (L_x117 hK w0 hM hL' h2 h7 n0 (by first | decide | omega) (by first | decide | omega) hy r3 hJ e3 (J - B 13 w 42 b).toNat K _ (by first | decide | omega) (Int.le_refl _) (by first | decide | omega)))) (fun c => ih n (j + 1) (by first | decide | omega) (by first | decide | omega) (by first | decide | omega) (by rw [k5 j j0 (by first | decide | omega)]; omega))))))
end
theorem p_x {Km : Nat} (a1 a2 a3 : Int) (h1 : r32 a1) (h2 : r32 a2) (h3 : r32 a3) {K : zK} {F Fm : zF} {B Bm : zB} (h : IV cc Km K F B Fm Bm) : ∃ r1 F1 B1 r2 F2 B2, f_S_x K 0 a1 a2 a3 F B = some (r1, F1, B1) ∧ f_M_x Km a1 a2 a3 Fm Bm = some (r2, F2, B2) ∧ IV cc Km K F1 B1 F2 B2 := by
  have hK := (IV_k h).1
  have hKm := (IV_k h).2.1
  have hU := IV_u h
  obtain ⟨x, y, e, e1, e2, e3, e4⟩ := prt h h1 h2
  obtain ⟨x', y', e1', e2', e3'⟩ := slotL h h1
  refine rd2 h ?_ ?_
  · unfold f_S_x f_S_x_46
    rw [if_pos (IV_12 h), e1, zb_s, e1', zb_s]
    rcases e4 with ⟨x0, _⟩ | ⟨_, x0, y0, z0, q, V, vV, ex, hP, _⟩
    · exact zR_i (fun _ => zR_s) (fun a => absurd x0 a)
    rcases e3' with ⟨x0', _⟩ | ⟨x0', y0', V', hP', hM', hD', ln, l8, _⟩
    · exact zR_i (fun _ => zR_s) (fun _ => zR_i (fun _ => zR_s) (fun a => absurd x0' a))
    obtain ⟨_, m, g, hV, _⟩ := hP.2.2 a2 z0.1 vV
    rw [← ex] at hV
    obtain ⟨_, _, _, _, _, _, _, _, c, nw, qn, gb⟩ := hV
    have c0 := nw.1
    have n10 := nw.2.1
    refine zR_i (fun _ => zR_s) (fun _ => zR_i (fun _ => zR_s) (fun _ => zR_g x0' (zR_i (fun _ => zR_s) (fun n8 => zR_g h3 (zR_i (fun _ => zR_s) (fun n3 => zR_g x0 (zR_g (by rw [n10]; unfold r32; omega) (zR_i (fun l3 => ?_) (fun _ => zR_s)))))))))
    rw [n10] at l3
    obtain ⟨k0, k1, k9, _⟩ := nw.2.2.2.2 a3 (by first | decide | omega) l3
    have hl : 0 ≤ F 6 x' 8 ∧ F 6 x' 8 < K.2 2 := ⟨(by first | decide | omega), l8⟩
    obtain ⟨q0, q4, hB⟩ := hU.2.1 (F 6 x' 8) hl.1 l8
    refine zR_g (by first | decide | omega) (zR_g hl (zR_b ?_ (fun _ => zR_s)))
    unfold f_Layout_columnX f_Layout_columnX_17
    have b5 := (hB (B 4 x 361 a3)).2.2.1
    exact zR_g hl (zR_g (by unfold r32; omega) (zR_i (fun _ => zR_s) (fun _ => zR_g (by unfold r32; omega) (zR_i (fun _ => zR_s) (fun _ => zR_i (fun lb => zR_g (by first | decide | omega) (C_cx27 hl hB (by first | decide | omega) (by unfold r64; omega) 3200 K.1 _ (by first | decide | omega) b5.1 b5.2 (by first | decide | omega))) (fun _ => zR_s))))))
  · unfold f_M_x f_M_x_39
    rw [e2, zb_s, e3, zb_s]
    rcases e4 with ⟨_, e0⟩ | ⟨e0, x0, y0, z0, q, V, vV, ex, hP, hM, _⟩
    · rw [e0]; exact zR_g (by decide) (zR_i (fun _ => zR_s) (fun a => absurd rfl a))
    have yy : y' = y := by
      rw [e2] at e2'
      injection e2' with t
      injection t with t
      exact t.symm
    rw [yy] at e3'
    rcases e3' with ⟨_, yn⟩ | ⟨x0', y0', V', hP', hM', hD', ln, l8, _⟩
    · omega
    obtain ⟨_, m, g, hV, h7⟩ := hP.2.2 a2 z0.1 vV
    rw [← ex] at hV h7
    obtain ⟨v1, v2, v3, v4, v5, _, _, _, c, nw, qn, gb⟩ := hV
    have c0 := nw.1
    have n13 := nw.2.2.2.1
    have k7 := hP.2.1.2.2.2.2.2
    have k2 : -7 ≤ Fm 13 y 2 ∧ Fm 13 y 2 ≤ 7 := by have := hP.2.1.1; omega
    rw [e0]
    refine zR_g (by decide) (zR_i (fun a => absurd a (by decide)) (fun _ => zR_g h3 (zR_i (fun _ => zR_s) (fun n3 => zR_g y0 (zR_g z0 (zR_g (by rw [n13]; unfold r32; omega) (zR_i (fun _ => zR_s) (fun l3 => ?_))))))))
    rw [n13] at l3
    obtain ⟨k0, k1, k9, _, _, zz⟩ := nw.2.2.2.2 a3 (by first | decide | omega) (by first | decide | omega)
    rcases ln with z48 | ln
    · exact zR_g (by rw [z48]; decide) (zR_i (fun _ => zR_s) (fun a => absurd z48 a))
    have n48 := ln.1
    have hb : 0 ≤ Bm 13 y 31 (800 * a2 + a3) ∧ Bm 13 y 31 (800 * a2 + a3) < Fm 13 y 7 := by
      rw [← k1.1]
      have zE := zz.2
      rw [← v5, ← h7] at zE
      exact ⟨k1.2.1, zE⟩
    obtain ⟨J, j1, j2, j3, j4⟩ := hM.2.1.1.2 a2 (800 * a2 + a3) z0.1 vV (by first | decide | omega) (by rw [n13]; omega) hb.1 hb.2
    have r3 := nd_64 ⟨k9.1, k9.2.1⟩
    rw [← k9.2.2.1, ← k9.2.2.2] at r3
    exact zR_g (by unfold r32; omega) (zR_i (fun _ => zR_s) (fun _ => zR_g (by first | decide | omega) (L_x63 (by first | decide | omega) y0 hM.2.1 ln k2 rfl (by first | decide | omega) hb (by first | decide | omega) r3 ⟨j1, j2⟩ ⟨j3, j4⟩ (Fm 13 y 48 - 1).toNat Km 0 (by first | decide | omega) (by decide) (by first | decide | omega) (by rw [ln.2.2.2.1]; exact hb.1))))
end
end
section
section
/-! ===== study: its readers return ===== -/
theorem zabs_b (x : Int) : 0 ≤ zabs x ∧ (zabs x = x ∨ zabs x = -x) := by unfold zabs; split <;> omega
theorem zrm_b {a b : Int} (ha : r32 a) (hb : 0 < b ∧ b ≤ 1000) : -b < zrm a b ∧ zrm a b < b := by
  rw [zrm_t ha hb.1 (by unfold r32; omega)]
  rcases Int.lt_or_le a 0 with n | n
  · obtain ⟨c, rfl⟩ : ∃ c, a = -c := ⟨-a, (by first | decide | omega)⟩
    rw [Int.neg_tmod, Int.tmod_eq_emod_of_nonneg (by first | decide | omega)]
    have h1 := Int.emod_nonneg c (show b ≠ 0 by omega)
    have h2 := Int.emod_lt_of_pos c hb.1
    omega
  · rw [Int.tmod_eq_emod_of_nonneg n]
    have h1 := Int.emod_nonneg a (show b ≠ 0 by omega)
    have h2 := Int.emod_lt_of_pos a hb.1
    omega
theorem s_fm {K : zK} {a b : Int} {F : zF} {B : zB} (ha : r32 a) (hb : 0 < b) (hb2 : b ≤ 1000) : zS (f_Math_floorMod K a b F B) (fun r F' B' => F' = F ∧ B' = B ∧ -b < r ∧ r < 2 * b) := by
  have z := zrm_b ha ⟨hb, hb2⟩
  unfold f_Math_floorMod f_Math_floorMod_18
  refine zS_g (iI_n0 hb (by unfold r32; omega)) (zS_g (toI_r _) (zS_i (fun _ => zS_s ⟨rfl, rfl, (by first | decide | omega), (by first | decide | omega)⟩) (fun _ => zS_g (zrm_R _ _) (zS_i (fun _ => zS_s ⟨rfl, rfl, (by first | decide | omega), (by first | decide | omega)⟩) (fun _ => zS_s ⟨rfl, rfl, (by first | decide | omega), (by first | decide | omega)⟩)))))
theorem z9_l : ztl 9 = 7 := by decide +kernel
theorem z10_l : ztl 10 = 7 := by decide +kernel
theorem z9_f : ∀ k : Fin 7, r32 (ztv 9 (k.val : Int)) ∧ r32 (ztv 10 (k.val : Int)) := by decide +kernel
theorem z9_v (x : Int) (h0 : 0 ≤ x) (h1 : x < 7) : r32 (ztv 9 x) := by
  have k := (z9_f ⟨x.toNat, (by first | decide | omega)⟩).1
  rw [show (((⟨x.toNat, (by first | decide | omega)⟩ : Fin 7).val : Nat) : Int) = x by show ((x.toNat : Nat) : Int) = x; omega] at k
  exact k
theorem z10_v (x : Int) (h0 : 0 ≤ x) (h1 : x < 7) : r32 (ztv 10 x) := by
  have k := (z9_f ⟨x.toNat, (by first | decide | omega)⟩).2
  rw [show (((⟨x.toNat, (by first | decide | omega)⟩ : Fin 7).val : Nat) : Int) = x by show ((x.toNat : Nat) : Int) = x; omega] at k
  exact k
theorem s_cons {K : zK} {a b c d : Int} {F : zF} {B : zB} (ha : -1 ≤ a ∧ a ≤ 200) (hb : -1 ≤ b ∧ b ≤ 200) (hc : -1 ≤ c ∧ c ≤ 200) (hd : -1 ≤ d ∧ d ≤ 200) : zS (f_Study_consonance K a b c d F B) (fun r F' B' => F' = F ∧ B' = B ∧ (0 ≤ r ∧ r ≤ 2)) := by
  unfold f_Study_consonance
  refine zS_g (by unfold r32; omega) ?_ -- 1
  refine zS_g (by unfold r32; omega) ?_ -- 2
  refine zS_i (fun h1 => ?_) (fun h1 => ?_) -- 3: (d ≤ b)
  · unfold f_Study_consonance_10
    refine zS_g (by unfold r32; omega) ?_ -- 5
    refine zS_i (fun h2 => ?_) (fun h2 => ?_) -- 6: (0 = 0)
    · unfold f_Study_consonance_26
      refine zS_b (s_fm (K := K) (a := (a - c)) (b := 7) (by unfold r32; omega) (by first | decide | omega) (by first | decide | omega)) ?_
      rintro o4 F B ⟨rfl, rfl, q3⟩
      refine zS_g (by unfold r32; omega) ?_ -- 9
      refine zS_g (by unfold r32; omega) ?_ -- 10
      refine zS_i (fun h6 => ?_) (fun h6 => ?_) -- 11: (o4 = 0)
      · have a7 := zabs_b (b - d)
        have a8 := zrm_R (zabs (b - d)) 12
        refine zS_g (by unfold r32; omega) ?_ -- 12
        refine zS_i (fun h9 => ?_) (fun h9 => ?_) -- 13: ((zrm (zabs (b - d)) 12) = 0)
        · exact zS_s ⟨rfl, rfl, (by first | decide | omega)⟩
        · unfold f_Study_consonance_56
          refine zS_g (by unfold r32; omega) ?_ -- 16
          refine zS_i (fun h10 => ?_) (fun h10 => ?_) -- 17: (o4 = 4)
          · refine zS_g (by unfold r32; omega) ?_ -- 18
            refine zS_i (fun h11 => ?_) (fun h11 => ?_) -- 19: ((zrm (zabs (b - d)) 12) = 7)
            · unfold f_Study_consonance_74
              exact zS_s ⟨rfl, rfl, (by first | decide | omega)⟩
            · unfold f_Study_consonance_73
              unfold f_Study_consonance_74
              exact zS_s ⟨rfl, rfl, (by first | decide | omega)⟩
          · unfold f_Study_consonance_73
            unfold f_Study_consonance_74
            exact zS_s ⟨rfl, rfl, (by first | decide | omega)⟩
      · have a12 := zabs_b (b - d)
        have a13 := zrm_R (zabs (b - d)) 12
        unfold f_Study_consonance_56
        refine zS_g (by unfold r32; omega) ?_ -- 29
        refine zS_i (fun h14 => ?_) (fun h14 => ?_) -- 30: (o4 = 4)
        · refine zS_g (by unfold r32; omega) ?_ -- 31
          refine zS_i (fun h15 => ?_) (fun h15 => ?_) -- 32: ((zrm (zabs (b - d)) 12) = 7)
          · unfold f_Study_consonance_74
            exact zS_s ⟨rfl, rfl, (by first | decide | omega)⟩
          · unfold f_Study_consonance_73
            unfold f_Study_consonance_74
            exact zS_s ⟨rfl, rfl, (by first | decide | omega)⟩
        · unfold f_Study_consonance_73
          unfold f_Study_consonance_74
          exact zS_s ⟨rfl, rfl, (by first | decide | omega)⟩
    · unfold f_Study_consonance_26
      refine zS_b (s_fm (K := K) (a := (c - a)) (b := 7) (by unfold r32; omega) (by first | decide | omega) (by first | decide | omega)) ?_
      rintro o17 F B ⟨rfl, rfl, q16⟩
      refine zS_g (by unfold r32; omega) ?_ -- 43
      refine zS_g (by unfold r32; omega) ?_ -- 44
      refine zS_i (fun h19 => ?_) (fun h19 => ?_) -- 45: (o17 = 0)
      · have a20 := zabs_b (b - d)
        have a21 := zrm_R (zabs (b - d)) 12
        refine zS_g (by unfold r32; omega) ?_ -- 46
        refine zS_i (fun h22 => ?_) (fun h22 => ?_) -- 47: ((zrm (zabs (b - d)) 12) = 0)
        · exact zS_s ⟨rfl, rfl, (by first | decide | omega)⟩
        · unfold f_Study_consonance_56
          refine zS_g (by unfold r32; omega) ?_ -- 50
          refine zS_i (fun h23 => ?_) (fun h23 => ?_) -- 51: (o17 = 4)
          · refine zS_g (by unfold r32; omega) ?_ -- 52
            refine zS_i (fun h24 => ?_) (fun h24 => ?_) -- 53: ((zrm (zabs (b - d)) 12) = 7)
            · unfold f_Study_consonance_74
              exact zS_s ⟨rfl, rfl, (by first | decide | omega)⟩
            · unfold f_Study_consonance_73
              unfold f_Study_consonance_74
              exact zS_s ⟨rfl, rfl, (by first | decide | omega)⟩
          · unfold f_Study_consonance_73
            unfold f_Study_consonance_74
            exact zS_s ⟨rfl, rfl, (by first | decide | omega)⟩
      · have a25 := zabs_b (b - d)
        have a26 := zrm_R (zabs (b - d)) 12
        unfold f_Study_consonance_56
        refine zS_g (by unfold r32; omega) ?_ -- 63
        refine zS_i (fun h27 => ?_) (fun h27 => ?_) -- 64: (o17 = 4)
        · refine zS_g (by unfold r32; omega) ?_ -- 65
          refine zS_i (fun h28 => ?_) (fun h28 => ?_) -- 66: ((zrm (zabs (b - d)) 12) = 7)
          · unfold f_Study_consonance_74
            exact zS_s ⟨rfl, rfl, (by first | decide | omega)⟩
          · unfold f_Study_consonance_73
            unfold f_Study_consonance_74
            exact zS_s ⟨rfl, rfl, (by first | decide | omega)⟩
        · unfold f_Study_consonance_73
          unfold f_Study_consonance_74
          exact zS_s ⟨rfl, rfl, (by first | decide | omega)⟩
  · unfold f_Study_consonance_10
    refine zS_g (by unfold r32; omega) ?_ -- 76
    refine zS_i (fun h29 => ?_) (fun h29 => ?_) -- 77: (1 = 0)
    · unfold f_Study_consonance_26
      refine zS_b (s_fm (K := K) (a := (a - c)) (b := 7) (by unfold r32; omega) (by first | decide | omega) (by first | decide | omega)) ?_
      rintro o31 F B ⟨rfl, rfl, q30⟩
      refine zS_g (by unfold r32; omega) ?_ -- 80
      refine zS_g (by unfold r32; omega) ?_ -- 81
      refine zS_i (fun h33 => ?_) (fun h33 => ?_) -- 82: (o31 = 0)
      · have a34 := zabs_b (b - d)
        have a35 := zrm_R (zabs (b - d)) 12
        refine zS_g (by unfold r32; omega) ?_ -- 83
        refine zS_i (fun h36 => ?_) (fun h36 => ?_) -- 84: ((zrm (zabs (b - d)) 12) = 0)
        · exact zS_s ⟨rfl, rfl, (by first | decide | omega)⟩
        · unfold f_Study_consonance_56
          refine zS_g (by unfold r32; omega) ?_ -- 87
          refine zS_i (fun h37 => ?_) (fun h37 => ?_) -- 88: (o31 = 4)
          · refine zS_g (by unfold r32; omega) ?_ -- 89
            refine zS_i (fun h38 => ?_) (fun h38 => ?_) -- 90: ((zrm (zabs (b - d)) 12) = 7)
            · unfold f_Study_consonance_74
              exact zS_s ⟨rfl, rfl, (by first | decide | omega)⟩
            · unfold f_Study_consonance_73
              unfold f_Study_consonance_74
              exact zS_s ⟨rfl, rfl, (by first | decide | omega)⟩
          · unfold f_Study_consonance_73
            unfold f_Study_consonance_74
            exact zS_s ⟨rfl, rfl, (by first | decide | omega)⟩
      · have a39 := zabs_b (b - d)
        have a40 := zrm_R (zabs (b - d)) 12
        unfold f_Study_consonance_56
        refine zS_g (by unfold r32; omega) ?_ -- 100
        refine zS_i (fun h41 => ?_) (fun h41 => ?_) -- 101: (o31 = 4)
        · refine zS_g (by unfold r32; omega) ?_ -- 102
          refine zS_i (fun h42 => ?_) (fun h42 => ?_) -- 103: ((zrm (zabs (b - d)) 12) = 7)
          · unfold f_Study_consonance_74
            exact zS_s ⟨rfl, rfl, (by first | decide | omega)⟩
          · unfold f_Study_consonance_73
            unfold f_Study_consonance_74
            exact zS_s ⟨rfl, rfl, (by first | decide | omega)⟩
        · unfold f_Study_consonance_73
          unfold f_Study_consonance_74
          exact zS_s ⟨rfl, rfl, (by first | decide | omega)⟩
    · unfold f_Study_consonance_26
      refine zS_b (s_fm (K := K) (a := (c - a)) (b := 7) (by unfold r32; omega) (by first | decide | omega) (by first | decide | omega)) ?_
      rintro o44 F B ⟨rfl, rfl, q43⟩
      refine zS_g (by unfold r32; omega) ?_ -- 114
      refine zS_g (by unfold r32; omega) ?_ -- 115
      refine zS_i (fun h46 => ?_) (fun h46 => ?_) -- 116: (o44 = 0)
      · have a47 := zabs_b (b - d)
        have a48 := zrm_R (zabs (b - d)) 12
        refine zS_g (by unfold r32; omega) ?_ -- 117
        refine zS_i (fun h49 => ?_) (fun h49 => ?_) -- 118: ((zrm (zabs (b - d)) 12) = 0)
        · exact zS_s ⟨rfl, rfl, (by first | decide | omega)⟩
        · unfold f_Study_consonance_56
          refine zS_g (by unfold r32; omega) ?_ -- 121
          refine zS_i (fun h50 => ?_) (fun h50 => ?_) -- 122: (o44 = 4)
          · refine zS_g (by unfold r32; omega) ?_ -- 123
            refine zS_i (fun h51 => ?_) (fun h51 => ?_) -- 124: ((zrm (zabs (b - d)) 12) = 7)
            · unfold f_Study_consonance_74
              exact zS_s ⟨rfl, rfl, (by first | decide | omega)⟩
            · unfold f_Study_consonance_73
              unfold f_Study_consonance_74
              exact zS_s ⟨rfl, rfl, (by first | decide | omega)⟩
          · unfold f_Study_consonance_73
            unfold f_Study_consonance_74
            exact zS_s ⟨rfl, rfl, (by first | decide | omega)⟩
      · have a52 := zabs_b (b - d)
        have a53 := zrm_R (zabs (b - d)) 12
        unfold f_Study_consonance_56
        refine zS_g (by unfold r32; omega) ?_ -- 134
        refine zS_i (fun h54 => ?_) (fun h54 => ?_) -- 135: (o44 = 4)
        · refine zS_g (by unfold r32; omega) ?_ -- 136
          refine zS_i (fun h55 => ?_) (fun h55 => ?_) -- 137: ((zrm (zabs (b - d)) 12) = 7)
          · unfold f_Study_consonance_74
            exact zS_s ⟨rfl, rfl, (by first | decide | omega)⟩
          · unfold f_Study_consonance_73
            unfold f_Study_consonance_74
            exact zS_s ⟨rfl, rfl, (by first | decide | omega)⟩
        · unfold f_Study_consonance_73
          unfold f_Study_consonance_74
          exact zS_s ⟨rfl, rfl, (by first | decide | omega)⟩
theorem s_one125 {K : zK} {a b : Int} {F : zF} {B : zB} (ha : 0 ≤ a ∧ a ≤ 300) (hb : -300 ≤ b ∧ b ≤ 300) : zS (f_Study_isFaultOfOne_125 K a b F B) (fun r F' B' => F' = F ∧ B' = B ∧ (r = 0 ∨ r = 1)) := by
  have e7 : zrm a 7 = a % 7 := zrm_e ha.1 (by unfold r32; omega) (by decide) (by decide)
  have z9 := z9_l
  have z10 := z10_l
  have v9 := z9_v (a % 7) (by first | decide | omega) (by first | decide | omega)
  have v10 := z10_v (a % 7) (by first | decide | omega) (by first | decide | omega)
  rw [← e7] at v9 v10
  unfold f_Study_isFaultOfOne_125
  refine zS_b (s_fm (K := K) (a := b) (b := 12) (by unfold r32; omega) (by first | decide | omega) (by first | decide | omega)) ?_
  rintro o2 F B ⟨rfl, rfl, q1⟩
  have a4 := zrm_R a 7
  refine zS_g (by first | decide | omega) ?_ -- 2
  refine zS_g (by unfold r32; omega) ?_ -- 3
  refine zS_g (by unfold r32; omega) ?_ -- 4
  refine zS_i (fun h5 => ?_) (fun h5 => ?_) -- 5: (o2 < (ztv 9 (zrm a 7)))
  · unfold f_Study_isFaultOfOne_162
    unfold f_Study_isFaultOfOne_167
    refine zS_g (by first | decide | omega) ?_ -- 8
    exact zS_s ⟨rfl, rfl, (by first | decide | omega)⟩
  · refine zS_g (by first | decide | omega) ?_ -- 10
    refine zS_g (by unfold r32; omega) ?_ -- 11
    refine zS_i (fun h6 => ?_) (fun h6 => ?_) -- 12: (o2 ≤ (ztv 10 (zrm a 7)))
    · unfold f_Study_isFaultOfOne_167
      refine zS_g (by first | decide | omega) ?_ -- 14
      exact zS_s ⟨rfl, rfl, (by first | decide | omega)⟩
    · unfold f_Study_isFaultOfOne_162
      unfold f_Study_isFaultOfOne_167
      refine zS_g (by first | decide | omega) ?_ -- 18
      exact zS_s ⟨rfl, rfl, (by first | decide | omega)⟩
theorem s_one {K : zK} {t k u : Int} {F : zF} {B : zB} (ht : 0 ≤ t ∧ t < K.2 9) (hu : 0 ≤ u ∧ u < 4) (hk : r32 k) (hS : ∀ j, (-1 ≤ B 9 t 5 j ∧ B 9 t 5 j ≤ 200) ∧ (-1 ≤ B 9 t 6 j ∧ B 9 t 6 j ≤ 200) ∧ (-1 ≤ B 9 t 7 j ∧ B 9 t 7 j ≤ 200) ∧ (-1 ≤ B 9 t 8 j ∧ B 9 t 8 j ≤ 200) ∧ (0 ≤ B 9 t 9 j ∧ B 9 t 9 j ≤ 1) ∧ r32 (B 9 t 10 j)) : zS (f_Study_isFaultOfOne K t k u F B) (fun r F' B' => F' = F ∧ B' = B ∧ (r = 0 ∨ r = 1)) := by
  unfold f_Study_isFaultOfOne
  refine zS_g (by first | decide | omega) ?_ -- 1
  refine zS_g (by first | decide | omega) ?_ -- 2
  have a1 := hS u
  refine zS_g (by unfold r32; omega) ?_ -- 3
  refine zS_i (fun h2 => ?_) (fun h2 => ?_) -- 4: ((B 9 t 9 u) = 0)
  · unfold f_Study_isFaultOfOne_29
    exact zS_s ⟨rfl, rfl, (by first | decide | omega)⟩
  · refine zS_g (by unfold r32; omega) ?_ -- 7
    refine zS_i (fun h3 => ?_) (fun h3 => ?_) -- 8: ((B 9 t 6 u) = (-1))
    · unfold f_Study_isFaultOfOne_29
      exact zS_s ⟨rfl, rfl, (by first | decide | omega)⟩
    · refine zS_g (by unfold r32; omega) ?_ -- 11
      refine zS_i (fun h4 => ?_) (fun h4 => ?_) -- 12: ((B 9 t 8 u) = (-1))
      · unfold f_Study_isFaultOfOne_29
        exact zS_s ⟨rfl, rfl, (by first | decide | omega)⟩
      · refine zS_g (by unfold r32; omega) ?_ -- 15
        refine zS_g (by unfold r32; omega) ?_ -- 16
        refine zS_i (fun h5 => ?_) (fun h5 => ?_) -- 17: (k = 5)
        · have a6 := zabs_b ((B 9 t 5 u) - (B 9 t 7 u))
          refine zS_g (by unfold r32; omega) ?_ -- 18
          refine zS_i (fun h7 => ?_) (fun h7 => ?_) -- 19: ((zabs ((B 9 t 5 u) - (B 9 t 7 u))) ≤ 7)
          · unfold f_Study_isFaultOfOne_64
            refine zS_g (by first | decide | omega) ?_ -- 21
            exact zS_s ⟨rfl, rfl, (by first | decide | omega)⟩
          · unfold f_Study_isFaultOfOne_64
            refine zS_g (by first | decide | omega) ?_ -- 24
            exact zS_s ⟨rfl, rfl, (by first | decide | omega)⟩
        · refine zS_g (by unfold r32; omega) ?_ -- 26
          refine zS_g (by unfold r32; omega) ?_ -- 27
          refine zS_i (fun h8 => ?_) (fun h8 => ?_) -- 28: ((B 9 t 5 u) ≤ (B 9 t 7 u))
          · have a9 := zabs_b ((B 9 t 5 u) - (B 9 t 7 u))
            unfold f_Study_isFaultOfOne_109
            refine zS_g (by unfold r32; omega) ?_ -- 30
            refine zS_i (fun h10 => ?_) (fun h10 => ?_) -- 31: ((zabs ((B 9 t 5 u) - (B 9 t 7 u))) = 0)
            · refine zS_g (by unfold r32; omega) ?_ -- 32
              have a11 := zabs_b ((B 9 t 8 u) - (B 9 t 6 u))
              exact s_one125 (by first | decide | omega) (by first | decide | omega) -- 33 f_Study_isFaultOfOne_125
            · exact s_one125 (by first | decide | omega) (by first | decide | omega) -- 34 f_Study_isFaultOfOne_125
          · have a12 := zabs_b ((B 9 t 5 u) - (B 9 t 7 u))
            unfold f_Study_isFaultOfOne_109
            refine zS_g (by unfold r32; omega) ?_ -- 36
            refine zS_i (fun h13 => ?_) (fun h13 => ?_) -- 37: ((zabs ((B 9 t 5 u) - (B 9 t 7 u))) = 0)
            · refine zS_g (by unfold r32; omega) ?_ -- 38
              have a14 := zabs_b ((B 9 t 6 u) - (B 9 t 8 u))
              exact s_one125 (by first | decide | omega) (by first | decide | omega) -- 39 f_Study_isFaultOfOne_125
            · exact s_one125 (by first | decide | omega) (by first | decide | omega) -- 40 f_Study_isFaultOfOne_125
theorem s_two305 {K : zK} {t u x y : Int} {F : zF} {B : zB} (ht : 0 ≤ t ∧ t < K.2 9) (hu : 0 ≤ u ∧ u < 4) (hx : 0 ≤ x ∧ x ≤ 2) (hy : 0 ≤ y ∧ y ≤ 2) (hS : ∀ j, (-1 ≤ B 9 t 5 j ∧ B 9 t 5 j ≤ 200) ∧ (-1 ≤ B 9 t 6 j ∧ B 9 t 6 j ≤ 200) ∧ (-1 ≤ B 9 t 7 j ∧ B 9 t 7 j ≤ 200) ∧ (-1 ≤ B 9 t 8 j ∧ B 9 t 8 j ≤ 200) ∧ (0 ≤ B 9 t 9 j ∧ B 9 t 9 j ≤ 1) ∧ r32 (B 9 t 10 j)) : zS (f_Study_isFaultOfTwo_305 K x y t u F B) (fun r F' B' => F' = F ∧ B' = B ∧ (r = 0 ∨ r = 1)) := by
  unfold f_Study_isFaultOfTwo_305
  refine zS_g (by unfold r32; omega) ?_ -- 1
  refine zS_i (fun h1 => ?_) (fun h1 => ?_) -- 2: (y = 0)
  · unfold f_Study_isFaultOfTwo_345
    unfold f_Study_isFaultOfTwo_346
    refine zS_g (by first | decide | omega) ?_ -- 5
    exact zS_s ⟨rfl, rfl, (by first | decide | omega)⟩
  · refine zS_g (by unfold r32; omega) ?_ -- 7
    refine zS_i (fun h2 => ?_) (fun h2 => ?_) -- 8: (y = x)
    · unfold f_Study_isFaultOfTwo_345
      unfold f_Study_isFaultOfTwo_346
      refine zS_g (by first | decide | omega) ?_ -- 11
      exact zS_s ⟨rfl, rfl, (by first | decide | omega)⟩
    · refine zS_g (by first | decide | omega) ?_ -- 13
      refine zS_g (by first | decide | omega) ?_ -- 14
      have a3 := hS u
      refine zS_g (by unfold r32; omega) ?_ -- 15
      have a4 := zabs_b ((B 9 t 5 u) - (B 9 t 7 u))
      refine zS_g (by unfold r32; omega) ?_ -- 16
      refine zS_i (fun h5 => ?_) (fun h5 => ?_) -- 17: ((zabs ((B 9 t 5 u) - (B 9 t 7 u))) ≤ 2)
      · unfold f_Study_isFaultOfTwo_345
        unfold f_Study_isFaultOfTwo_346
        refine zS_g (by first | decide | omega) ?_ -- 20
        exact zS_s ⟨rfl, rfl, (by first | decide | omega)⟩
      · unfold f_Study_isFaultOfTwo_346
        refine zS_g (by first | decide | omega) ?_ -- 23
        exact zS_s ⟨rfl, rfl, (by first | decide | omega)⟩
theorem s_two204 {K : zK} {t k u v : Int} {F : zF} {B : zB} (ht : 0 ≤ t ∧ t < K.2 9) (hu : 0 ≤ u ∧ u < 4) (hv : 0 ≤ v ∧ v < 4) (hk : r32 k) (hS : ∀ j, (-1 ≤ B 9 t 5 j ∧ B 9 t 5 j ≤ 200) ∧ (-1 ≤ B 9 t 6 j ∧ B 9 t 6 j ≤ 200) ∧ (-1 ≤ B 9 t 7 j ∧ B 9 t 7 j ≤ 200) ∧ (-1 ≤ B 9 t 8 j ∧ B 9 t 8 j ≤ 200) ∧ (0 ≤ B 9 t 9 j ∧ B 9 t 9 j ≤ 1) ∧ r32 (B 9 t 10 j)) : zS (f_Study_isFaultOfTwo_204 K t k u v F B) (fun r F' B' => F' = F ∧ B' = B ∧ (r = 0 ∨ r = 1)) := by
  unfold f_Study_isFaultOfTwo_204
  refine zS_g (by first | decide | omega) ?_ -- 1
  refine zS_g (by first | decide | omega) ?_ -- 2
  refine zS_g (by first | decide | omega) ?_ -- 3
  have a1 := hS u
  have a2 := hS v
  refine zS_b (s_cons (K := K) (by first | decide | omega) (by first | decide | omega) (by first | decide | omega) (by first | decide | omega)) ?_
  rintro o4 F B ⟨rfl, rfl, q3⟩
  refine zS_b (s_cons (K := K) (by first | decide | omega) (by first | decide | omega) (by first | decide | omega) (by first | decide | omega)) ?_
  rintro o7 F B ⟨rfl, rfl, q6⟩
  refine zS_g (by unfold r32; omega) ?_ -- 6
  refine zS_i (fun h9 => ?_) (fun h9 => ?_) -- 7: (3 ≤ k)
  · refine zS_g (by unfold r32; omega) ?_ -- 8
    refine zS_g (by unfold r32; omega) ?_ -- 9
    refine zS_i (fun h10 => ?_) (fun h10 => ?_) -- 10: ((B 9 t 6 v) ≤ (B 9 t 6 u))
    · exact s_two305 ht (by first | decide | omega) (by first | decide | omega) (by first | decide | omega) hS -- 11 f_Study_isFaultOfTwo_305
    · exact s_two305 ht (by first | decide | omega) (by first | decide | omega) (by first | decide | omega) hS -- 12 f_Study_isFaultOfTwo_305
  · refine zS_g (by unfold r32; omega) ?_ -- 13
    refine zS_i (fun h11 => ?_) (fun h11 => ?_) -- 14: (o4 = k)
    · refine zS_g (by unfold r32; omega) ?_ -- 15
      refine zS_i (fun h12 => ?_) (fun h12 => ?_) -- 16: (o7 = k)
      · unfold f_Study_isFaultOfTwo_284
        refine zS_g (by first | decide | omega) ?_ -- 18
        exact zS_s ⟨rfl, rfl, (by first | decide | omega)⟩
      · unfold f_Study_isFaultOfTwo_283
        unfold f_Study_isFaultOfTwo_284
        refine zS_g (by first | decide | omega) ?_ -- 22
        exact zS_s ⟨rfl, rfl, (by first | decide | omega)⟩
    · unfold f_Study_isFaultOfTwo_283
      unfold f_Study_isFaultOfTwo_284
      refine zS_g (by first | decide | omega) ?_ -- 26
      exact zS_s ⟨rfl, rfl, (by first | decide | omega)⟩
theorem s_two167 {K : zK} {t k u v : Int} {F : zF} {B : zB} (ht : 0 ≤ t ∧ t < K.2 9) (hu : 0 ≤ u ∧ u < 4) (hv : 0 ≤ v ∧ v < 4) (hk : r32 k) (hS : ∀ j, (-1 ≤ B 9 t 5 j ∧ B 9 t 5 j ≤ 200) ∧ (-1 ≤ B 9 t 6 j ∧ B 9 t 6 j ≤ 200) ∧ (-1 ≤ B 9 t 7 j ∧ B 9 t 7 j ≤ 200) ∧ (-1 ≤ B 9 t 8 j ∧ B 9 t 8 j ≤ 200) ∧ (0 ≤ B 9 t 9 j ∧ B 9 t 9 j ≤ 1) ∧ r32 (B 9 t 10 j)) {x y s : Int} (hx : 0 ≤ x ∧ x ≤ 1) (hy : 0 ≤ y ∧ y ≤ 1) (hs : 0 ≤ s ∧ s ≤ 1) : zS (f_Study_isFaultOfTwo_167 K x y t k u v s F B) (fun r F' B' => F' = F ∧ B' = B ∧ (r = 0 ∨ r = 1)) := by
  unfold f_Study_isFaultOfTwo_167
  refine zS_g (by unfold r32; omega) ?_ -- 1
  refine zS_i (fun h1 => ?_) (fun h1 => ?_) -- 2: (y = 0)
  · unfold f_Study_isFaultOfTwo_202
    exact zS_s ⟨rfl, rfl, (by first | decide | omega)⟩
  · refine zS_g (by first | decide | omega) ?_ -- 5
    refine zS_g (by first | decide | omega) ?_ -- 6
    have a2 := hS u
    refine zS_g (by unfold r32; omega) ?_ -- 7
    refine zS_i (fun h3 => ?_) (fun h3 => ?_) -- 8: ((B 9 t 9 u) = 0)
    · unfold f_Study_isFaultOfTwo_202
      exact zS_s ⟨rfl, rfl, (by first | decide | omega)⟩
    · refine zS_g (by first | decide | omega) ?_ -- 11
      have a4 := hS v
      refine zS_g (by unfold r32; omega) ?_ -- 12
      refine zS_i (fun h5 => ?_) (fun h5 => ?_) -- 13: ((B 9 t 9 v) = 0)
      · unfold f_Study_isFaultOfTwo_202
        exact zS_s ⟨rfl, rfl, (by first | decide | omega)⟩
      · refine zS_g (by unfold r32; omega) ?_ -- 16
        refine zS_i (fun h6 => ?_) (fun h6 => ?_) -- 17: (x = 0)
        · refine zS_g (by unfold r32; omega) ?_ -- 18
          refine zS_i (fun h7 => ?_) (fun h7 => ?_) -- 19: (s = 0)
          · unfold f_Study_isFaultOfTwo_202
            exact zS_s ⟨rfl, rfl, (by first | decide | omega)⟩
          · exact s_two204 ht hu hv hk hS -- 22 f_Study_isFaultOfTwo_204
        · exact s_two204 ht hu hv hk hS -- 23 f_Study_isFaultOfTwo_204
theorem s_two130 {K : zK} {t k u v : Int} {F : zF} {B : zB} (ht : 0 ≤ t ∧ t < K.2 9) (hu : 0 ≤ u ∧ u < 4) (hv : 0 ≤ v ∧ v < 4) (hk : r32 k) (hS : ∀ j, (-1 ≤ B 9 t 5 j ∧ B 9 t 5 j ≤ 200) ∧ (-1 ≤ B 9 t 6 j ∧ B 9 t 6 j ≤ 200) ∧ (-1 ≤ B 9 t 7 j ∧ B 9 t 7 j ≤ 200) ∧ (-1 ≤ B 9 t 8 j ∧ B 9 t 8 j ≤ 200) ∧ (0 ≤ B 9 t 9 j ∧ B 9 t 9 j ≤ 1) ∧ r32 (B 9 t 10 j)) {y s : Int} (hy : 0 ≤ y ∧ y ≤ 1) (hs : 0 ≤ s ∧ s ≤ 1) : zS (f_Study_isFaultOfTwo_130 K y t k u v s F B) (fun r F' B' => F' = F ∧ B' = B ∧ (r = 0 ∨ r = 1)) := by
  unfold f_Study_isFaultOfTwo_130
  refine zS_g (by first | decide | omega) ?_ -- 1
  refine zS_g (by first | decide | omega) ?_ -- 2
  have a1 := hS u
  refine zS_g (by unfold r32; omega) ?_ -- 3
  refine zS_g (by unfold r32; omega) ?_ -- 4
  refine zS_i (fun h2 => ?_) (fun h2 => ?_) -- 5: ((B 9 t 8 u) ≤ (B 9 t 6 u))
  · unfold f_Study_isFaultOfTwo_166
    exact s_two167 ht hu hv hk hS (by first | decide | omega) (by first | decide | omega) (by first | decide | omega) -- 7 f_Study_isFaultOfTwo_167
  · refine zS_g (by first | decide | omega) ?_ -- 8
    have a3 := hS v
    refine zS_g (by unfold r32; omega) ?_ -- 9
    refine zS_g (by unfold r32; omega) ?_ -- 10
    refine zS_i (fun h4 => ?_) (fun h4 => ?_) -- 11: ((B 9 t 8 v) ≤ (B 9 t 6 v))
    · unfold f_Study_isFaultOfTwo_166
      exact s_two167 ht hu hv hk hS (by first | decide | omega) (by first | decide | omega) (by first | decide | omega) -- 13 f_Study_isFaultOfTwo_167
    · exact s_two167 ht hu hv hk hS (by first | decide | omega) (by first | decide | omega) (by first | decide | omega) -- 14 f_Study_isFaultOfTwo_167
theorem s_two47 {K : zK} {t k u v : Int} {F : zF} {B : zB} (ht : 0 ≤ t ∧ t < K.2 9) (hu : 0 ≤ u ∧ u < 4) (hv : 0 ≤ v ∧ v < 4) (hk : r32 k) (hS : ∀ j, (-1 ≤ B 9 t 5 j ∧ B 9 t 5 j ≤ 200) ∧ (-1 ≤ B 9 t 6 j ∧ B 9 t 6 j ≤ 200) ∧ (-1 ≤ B 9 t 7 j ∧ B 9 t 7 j ≤ 200) ∧ (-1 ≤ B 9 t 8 j ∧ B 9 t 8 j ≤ 200) ∧ (0 ≤ B 9 t 9 j ∧ B 9 t 9 j ≤ 1) ∧ r32 (B 9 t 10 j)) {s : Int} (hs : 0 ≤ s ∧ s ≤ 1) : zS (f_Study_isFaultOfTwo_47 K t k u v s F B) (fun r F' B' => F' = F ∧ B' = B ∧ (r = 0 ∨ r = 1)) := by
  unfold f_Study_isFaultOfTwo_47
  refine zS_g (by unfold r32; omega) ?_ -- 1
  refine zS_i (fun h1 => ?_) (fun h1 => ?_) -- 2: (k = 4)
  · refine zS_g (by first | decide | omega) ?_ -- 3
    refine zS_g (by first | decide | omega) ?_ -- 4
    refine zS_g (by first | decide | omega) ?_ -- 5
    have a2 := hS v
    refine zS_g (by unfold r32; omega) ?_ -- 6
    have a3 := hS u
    refine zS_g (by unfold r32; omega) ?_ -- 7
    refine zS_i (fun h4 => ?_) (fun h4 => ?_) -- 8: ((B 9 t 6 v) ≤ (B 9 t 6 u))
    · unfold f_Study_isFaultOfTwo_93
      unfold f_Study_isFaultOfTwo_94
      refine zS_g (by first | decide | omega) ?_ -- 11
      exact zS_s ⟨rfl, rfl, (by first | decide | omega)⟩
    · refine zS_g (by unfold r32; omega) ?_ -- 13
      refine zS_i (fun h5 => ?_) (fun h5 => ?_) -- 14: (s = 0)
      · unfold f_Study_isFaultOfTwo_89
        unfold f_Study_isFaultOfTwo_94
        refine zS_g (by first | decide | omega) ?_ -- 17
        exact zS_s ⟨rfl, rfl, (by first | decide | omega)⟩
      · refine zS_g (by unfold r32; omega) ?_ -- 19
        refine zS_g (by unfold r32; omega) ?_ -- 20
        refine zS_i (fun h6 => ?_) (fun h6 => ?_) -- 21: ((B 9 t 8 u) < (B 9 t 8 v))
        · unfold f_Study_isFaultOfTwo_93
          unfold f_Study_isFaultOfTwo_94
          refine zS_g (by first | decide | omega) ?_ -- 24
          exact zS_s ⟨rfl, rfl, (by first | decide | omega)⟩
        · unfold f_Study_isFaultOfTwo_89
          unfold f_Study_isFaultOfTwo_94
          refine zS_g (by first | decide | omega) ?_ -- 28
          exact zS_s ⟨rfl, rfl, (by first | decide | omega)⟩
  · refine zS_g (by first | decide | omega) ?_ -- 30
    refine zS_g (by first | decide | omega) ?_ -- 31
    have a7 := hS u
    refine zS_g (by unfold r32; omega) ?_ -- 32
    refine zS_g (by unfold r32; omega) ?_ -- 33
    refine zS_i (fun h8 => ?_) (fun h8 => ?_) -- 34: ((B 9 t 6 u) ≤ (B 9 t 8 u))
    · unfold f_Study_isFaultOfTwo_129
      exact s_two130 ht hu hv hk hS (by first | decide | omega) (by first | decide | omega) -- 36 f_Study_isFaultOfTwo_130
    · refine zS_g (by first | decide | omega) ?_ -- 37
      have a9 := hS v
      refine zS_g (by unfold r32; omega) ?_ -- 38
      refine zS_g (by unfold r32; omega) ?_ -- 39
      refine zS_i (fun h10 => ?_) (fun h10 => ?_) -- 40: ((B 9 t 6 v) ≤ (B 9 t 8 v))
      · unfold f_Study_isFaultOfTwo_129
        exact s_two130 ht hu hv hk hS (by first | decide | omega) (by first | decide | omega) -- 42 f_Study_isFaultOfTwo_130
      · exact s_two130 ht hu hv hk hS (by first | decide | omega) (by first | decide | omega) -- 43 f_Study_isFaultOfTwo_130
theorem s_two {K : zK} {t k u v : Int} {F : zF} {B : zB} (ht : 0 ≤ t ∧ t < K.2 9) (hu : 0 ≤ u ∧ u < 4) (hv : 0 ≤ v ∧ v < 4) (hk : r32 k) (hS : ∀ j, (-1 ≤ B 9 t 5 j ∧ B 9 t 5 j ≤ 200) ∧ (-1 ≤ B 9 t 6 j ∧ B 9 t 6 j ≤ 200) ∧ (-1 ≤ B 9 t 7 j ∧ B 9 t 7 j ≤ 200) ∧ (-1 ≤ B 9 t 8 j ∧ B 9 t 8 j ≤ 200) ∧ (0 ≤ B 9 t 9 j ∧ B 9 t 9 j ≤ 1) ∧ r32 (B 9 t 10 j)) : zS (f_Study_isFaultOfTwo K t k u v F B) (fun r F' B' => F' = F ∧ B' = B ∧ (r = 0 ∨ r = 1)) := by
  unfold f_Study_isFaultOfTwo
  refine zS_g (by first | decide | omega) ?_ -- 1
  refine zS_g (by first | decide | omega) ?_ -- 2
  have a1 := hS u
  refine zS_g (by unfold r32; omega) ?_ -- 3
  refine zS_i (fun h2 => ?_) (fun h2 => ?_) -- 4: ((B 9 t 6 u) = (-1))
  · unfold f_Study_isFaultOfTwo_20
    exact zS_s ⟨rfl, rfl, (by first | decide | omega)⟩
  · refine zS_g (by first | decide | omega) ?_ -- 7
    have a3 := hS v
    refine zS_g (by unfold r32; omega) ?_ -- 8
    refine zS_i (fun h4 => ?_) (fun h4 => ?_) -- 9: ((B 9 t 6 v) = (-1))
    · unfold f_Study_isFaultOfTwo_20
      exact zS_s ⟨rfl, rfl, (by first | decide | omega)⟩
    · refine zS_g (by unfold r32; omega) ?_ -- 12
      refine zS_i (fun h5 => ?_) (fun h5 => ?_) -- 13: ((B 9 t 8 u) = (-1))
      · unfold f_Study_isFaultOfTwo_46
        exact s_two47 ht hu hv hk hS (by first | decide | omega) -- 15 f_Study_isFaultOfTwo_47
      · refine zS_g (by unfold r32; omega) ?_ -- 16
        refine zS_i (fun h6 => ?_) (fun h6 => ?_) -- 17: ((B 9 t 8 v) = (-1))
        · unfold f_Study_isFaultOfTwo_46
          exact s_two47 ht hu hv hk hS (by first | decide | omega) -- 19 f_Study_isFaultOfTwo_47
        · exact s_two47 ht hu hv hk hS (by first | decide | omega) -- 20 f_Study_isFaultOfTwo_47
end
end
section
section
/-! ===== study: moments and lines, class ===== -/
def SBb (t : Int) (B : zB) : Prop := (∀ j, 0 ≤ B 9 t 1 j ∧ B 9 t 1 j ≤ 1000000000000) ∧ (∀ k j, 280 ≤ k → k ≤ 283 → -1 ≤ B 9 t k j ∧ B 9 t k j ≤ 199) ∧ ∀ j, (-1 ≤ B 9 t 5 j ∧ B 9 t 5 j ≤ 200) ∧ (-1 ≤ B 9 t 6 j ∧ B 9 t 6 j ≤ 200) ∧ (-1 ≤ B 9 t 7 j ∧ B 9 t 7 j ≤ 200) ∧ (-1 ≤ B 9 t 8 j ∧ B 9 t 8 j ≤ 200) ∧ (0 ≤ B 9 t 9 j ∧ B 9 t 9 j ≤ 1) ∧ r32 (B 9 t 10 j)
def stF (t : Int) (F F' : zF) : Prop := ∀ c y k, ¬ (c = 9 ∧ y = t ∧ (k = 0 ∨ k = 2)) → F' c y k = F c y k
def stB (t : Int) (B B' : zB) : Prop := ∀ c y k x, ¬ (c = 9 ∧ y = t) → B' c y k x = B c y k x
theorem stF_r {t : Int} {F : zF} : stF t F F := fun _ _ _ _ => rfl
theorem stB_r {t : Int} {B : zB} : stB t B B := fun _ _ _ _ _ => rfl
theorem stF_t {t : Int} {F F1 F2 : zF} (h : stF t F F1) (h' : stF t F1 F2) : stF t F F2 := fun c y k n => by rw [h' c y k n, h c y k n]
theorem stB_t {t : Int} {B B1 B2 : zB} (h : stB t B B1) (h' : stB t B1 B2) : stB t B B2 := fun c y k x n => by rw [h' c y k x n, h c y k x n]
theorem stF_w {t x : Int} {F : zF} {k : Nat} (hk : k = 0 ∨ k = 2) : stF t F (zup3 F 9 t k x) := fun c y j n => by rw [zup3_v, if_neg (by first | decide | omega)]
theorem stB_w {t i x : Int} {B : zB} {k : Nat} : stB t B (zup4 B 9 t k i x) := fun c y j z n => by rw [zup4_v, if_neg (by first | decide | omega)]
theorem up9 {P : Int → Prop} {B : zB} {t i x j : Int} {k r : Nat} (hx : r = k → P x) (h : P (B 9 t r j)) : P (zup4 B 9 t k i x 9 t r j) := by
  rw [zup4_v]
  split
  · rename_i q; exact hx q.2.2.1
  · exact h
theorem SB_w {t i x : Int} {B : zB} {k : Nat} (h : SBb t B) (x1 : k = 1 → 0 ≤ x ∧ x ≤ 1000000000000) (x2 : 280 ≤ k → k ≤ 283 → -1 ≤ x ∧ x ≤ 199) (x5 : k = 5 ∨ k = 6 ∨ k = 7 ∨ k = 8 → -1 ≤ x ∧ x ≤ 200) (x9 : k = 9 → 0 ≤ x ∧ x ≤ 1) (x10 : k = 10 → r32 x) : SBb t (zup4 B 9 t k i x) := by
  obtain ⟨a1, a2, a3⟩ := h
  refine ⟨fun j => up9 (P := fun v => 0 ≤ v ∧ v ≤ 1000000000000) (fun q => x1 q.symm) (a1 j), fun r j r0 r1 => up9 (P := fun v => -1 ≤ v ∧ v ≤ 199) (fun q => x2 (by first | decide | omega) (by first | decide | omega)) (a2 r j r0 r1), fun j => ?_⟩
  obtain ⟨b5, b6, b7, b8, b9, b10⟩ := a3 j
  exact ⟨up9 (P := fun v => -1 ≤ v ∧ v ≤ 200) (fun q => x5 (by first | decide | omega)) b5, up9 (P := fun v => -1 ≤ v ∧ v ≤ 200) (fun q => x5 (by first | decide | omega)) b6, up9 (P := fun v => -1 ≤ v ∧ v ≤ 200) (fun q => x5 (by first | decide | omega)) b7, up9 (P := fun v => -1 ≤ v ∧ v ≤ 200) (fun q => x5 (by first | decide | omega)) b8, up9 (P := fun v => 0 ≤ v ∧ v ≤ 1) (fun q => x9 (by first | decide | omega)) b9, up9 (P := r32) (fun q => x10 (by first | decide | omega)) b10⟩
/-- a piece as its study wants it -/
def PQs (K : zK) (V p : Int) (F : zF) (B : zB) : Prop := (0 ≤ p ∧ p < K.2 6) ∧ (F 6 p 1 = V ∧ 1 ≤ V ∧ V ≤ 4) ∧ (-7 ≤ F 6 p 2 ∧ F 6 p 2 ≤ 7) ∧ (F 6 p 3 = 0 ∨ F 6 p 3 = 1) ∧ ∀ u, 0 ≤ u → u < V → ∃ m, PKc K (B 6 p 0 u) m F B
theorem PKs_f {K : zK} {V p t : Int} {F F' : zF} {B B' : zB} (h : PQs K V p F B) (f : stF t F F') (b : stB t B B') : PQs K V p F' B' := by
  have f6 : ∀ k, F' 6 p k = F 6 p k := fun k => f 6 p k (by first | decide | omega)
  have b6 : ∀ x, B' 6 p 0 x = B 6 p 0 x := fun x => b 6 p 0 x (by first | decide | omega)
  have f4 : ∀ q k, F' 4 q k = F 4 q k := fun q k => f 4 q k (by first | decide | omega)
  have b4 : ∀ q k x, B' 4 q k x = B 4 q k x := fun q k x => b 4 q k x (by first | decide | omega)
  have g1 : ∀ q k, F' 1 q k = F 1 q k := fun q k => f 1 q k (by first | decide | omega)
  have c1 : ∀ q k x, B' 1 q k x = B 1 q k x := fun q k x => b 1 q k x (by first | decide | omega)
  unfold PQs PKc EKc at *
  simp only [f6, b6, f4, b4, g1, c1]
  exact h
section
variable {K : zK} {V p t : Int}
theorem C_evO {F : zF} {B : zB} {u j : Int} (h : PQs K V p F B) (ht : 0 ≤ t ∧ t < K.2 9) (hS : SBb t B) (u0 : 0 ≤ u) (u1 : u < V) (hj : 0 ≤ j ∧ j < 800) : ∃ r, f_Study_eventOf K t p u j F B = some (r, F, B) ∧ (r = -1 ∨ (EKc K r F B ∧ 0 ≤ F 1 r 0 ∧ F 1 r 0 ≤ 1000000000000)) := by
  have hV := h.2.1
  obtain ⟨m, q0, q1, q2, q3⟩ := h.2.2.2.2 u u0 u1
  have b := hS.2.1 (280 + u.toNat) j (by first | decide | omega) (by first | decide | omega)
  unfold f_Study_eventOf f_Study_eventOf_29 f_Study_eventOf_45
  rw [if_pos ht, if_pos (by first | decide | omega), if_pos hj, if_pos (by unfold r32; omega)]
  by_cases c : B 9 t (280 + u.toNat) j < 0
  · rw [if_pos c]; exact ⟨-1, rfl, Or.inl rfl⟩
  rw [if_neg c, if_pos h.1, if_pos q0, q1, if_pos (by unfold r32; omega)]
  by_cases c1 : B 9 t (280 + u.toNat) j < m
  · have k := q3 (B 9 t (280 + u.toNat) j) (by first | decide | omega) c1
    rw [if_pos c1, if_pos (by first | decide | omega)]; exact ⟨_, rfl, Or.inr ⟨k.1, k.2.1⟩⟩
  · rw [if_neg c1]; exact ⟨-1, rfl, Or.inl rfl⟩
theorem C_snp {F : zF} {B : zB} {j : Int} (h : PQs K V p F B) (ht : 0 ≤ t ∧ t < K.2 9) (hS : SBb t B) (hj : 0 ≤ j ∧ j < 800) : ∀ (d N : Nat) (u v : Int), u + d = V → 0 ≤ u → d < N → (-1 ≤ v ∧ v ≤ 1000000000000) → ∃ r, f_Study_nextPlace_7 K N u v t p j F B = some (r, F, B) ∧ -1 ≤ r ∧ r ≤ 1000000000000 := by
  have hV := h.2.1
  intro d
  induction d with
  | zero =>
    intro N u v hu u0 hN hv
    obtain ⟨n, rfl⟩ : ∃ n, N = n + 1 := ⟨N - 1, (by first | decide | omega)⟩
    rw [f_Study_nextPlace_7, if_pos h.1, if_pos (by unfold r32; omega), if_pos (by unfold r32; omega), if_pos (by first | decide | omega)]
    exact ⟨v, rfl, hv⟩
  | succ d ih =>
    intro N u v hu u0 hN hv
    obtain ⟨n, rfl⟩ : ∃ n, N = n + 1 := ⟨N - 1, (by first | decide | omega)⟩
    obtain ⟨m, q0, q1, q2, q3⟩ := h.2.2.2.2 u u0 (by first | decide | omega)
    have b := hS.2.1 (280 + u.toNat) j (by first | decide | omega) (by first | decide | omega)
    have nxt : ∀ v', (-1 ≤ v' ∧ v' ≤ 1000000000000) → ∃ r, f_Study_nextPlace_82 (f_Study_nextPlace_7 K n) K u v' t p j F B = some (r, F, B) ∧ -1 ≤ r ∧ r ≤ 1000000000000 := fun v' hv' => ih n (u + 1) v' (by first | decide | omega) (by first | decide | omega) (by first | decide | omega) hv'
    rw [f_Study_nextPlace_7, if_pos h.1, if_pos (by unfold r32; omega), if_pos (by unfold r32; omega), if_neg (by first | decide | omega), if_pos (by first | decide | omega), if_pos ht, if_pos hj, if_pos q0, if_pos (by unfold r32; omega), q1, if_pos (by unfold r32; omega)]
    by_cases c : m ≤ B 9 t (280 + u.toNat) j + 1
    · rw [if_pos c]; exact nxt v hv
    obtain ⟨k1, k2, k3⟩ := q3 (B 9 t (280 + u.toNat) j + 1) (by first | decide | omega) (by first | decide | omega)
    have o70 : ∃ r, f_Study_nextPlace_70 (f_Study_nextPlace_7 K n) K (B 9 t (280 + u.toNat) j + 1) (B 6 p 0 u) u t p j F B = some (r, F, B) ∧ -1 ≤ r ∧ r ≤ 1000000000000 := by
      unfold f_Study_nextPlace_70
      rw [if_pos q0, if_pos (by first | decide | omega), if_pos k1.1]
      exact nxt _ (by first | decide | omega)
    rw [if_neg c, if_pos (by unfold r64; omega)]
    by_cases c1 : zcmp v 0 < 0
    · rw [if_pos c1]; exact o70
    rw [if_neg c1, if_pos (by first | decide | omega), if_pos k1.1, if_pos (by unfold r64; omega)]
    by_cases c2 : 0 ≤ zcmp (F 1 (B 4 (B 6 p 0 u) 5 (B 9 t (280 + u.toNat) j + 1)) 0) v
    · rw [if_pos c2]; exact nxt v hv
    · rw [if_neg c2]; exact o70
theorem C_fm68 {v j : Int} {F : zF} {rec : Int → Int → Int → zF → zB → zO} (ht : 0 ≤ t ∧ t < K.2 9) (hj : 0 ≤ j ∧ j < 800) (hv : -1 ≤ v ∧ v ≤ 1000000000000) : ∀ (d N : Nat) (u : Int) (B : zB), u + d = V → 0 ≤ u → d < N → PQs K V p F B → SBb t B → ∃ B', f_Study_findMoments_68 rec K N u v j t p F B = rec (j + 1) t p (zup3 F 9 t 0 (j + 1)) B' ∧ stB t B B' ∧ SBb t B' := by
  intro d
  induction d with
  | zero =>
    intro N u B hu u0 hN h hS
    obtain ⟨n, rfl⟩ : ∃ n, N = n + 1 := ⟨N - 1, (by first | decide | omega)⟩
    have hV := h.2.1
    rw [f_Study_findMoments_68, if_pos h.1, if_pos (by unfold r32; omega), if_pos (by unfold r32; omega), if_pos (by first | decide | omega), if_pos ht]
    exact ⟨B, rfl, stB_r, hS⟩
  | succ d ih =>
    intro N u B hu u0 hN h hS
    obtain ⟨n, rfl⟩ : ∃ n, N = n + 1 := ⟨N - 1, (by first | decide | omega)⟩
    have hV := h.2.1
    obtain ⟨m, q0, q1, q2, q3⟩ := h.2.2.2.2 u u0 (by first | decide | omega)
    have zm : 0 ≤ zmax (j - 1) 0 ∧ zmax (j - 1) 0 < 800 := by unfold zmax; split <;> omega
    have b := hS.2.1 (280 + u.toNat) (zmax (j - 1) 0) (by first | decide | omega) (by first | decide | omega)
    have o136 : ∀ x s, (s = 0 ∧ 0 ≤ x ∧ x ≤ 200) ∨ (s = 1 ∧ 0 ≤ x ∧ x ≤ 199) → ∃ B', f_Study_findMoments_136 rec (f_Study_findMoments_68 rec K n) K x u v j t p s F B = rec (j + 1) t p (zup3 F 9 t 0 (j + 1)) B' ∧ stB t B B' ∧ SBb t B' := fun x s hx => by
      have o160 : ∀ y, -1 ≤ y ∧ y ≤ 199 → ∃ B', f_Study_findMoments_160 rec (f_Study_findMoments_68 rec K n) K u v j t p t u j y F B = rec (j + 1) t p (zup3 F 9 t 0 (j + 1)) B' ∧ stB t B B' ∧ SBb t B' := fun y hy => by
        unfold f_Study_findMoments_160
        rw [if_pos ht, if_pos (by first | decide | omega), if_pos hj]
        obtain ⟨B', g1, g2, g3⟩ := ih n (u + 1) (zup4 B 9 t (280 + u.toNat) j y) (by first | decide | omega) (by first | decide | omega) (by first | decide | omega) (PKs_f h stF_r stB_w) (SB_w hS (by first | decide | omega) (by first | decide | omega) (by first | decide | omega) (by first | decide | omega) (by first | decide | omega))
        exact ⟨B', g1, stB_t stB_w g2, g3⟩
      unfold f_Study_findMoments_136
      rw [if_pos ht, if_pos (by first | decide | omega), if_pos (by unfold r32; omega)]
      by_cases c : s = 0
      · rw [if_pos c]; exact o160 _ (by first | decide | omega)
      · rw [if_neg c]; exact o160 _ (by first | decide | omega)
    have o135 : ∀ x, 0 ≤ x ∧ x ≤ 200 → ∃ B', f_Study_findMoments_135 rec (f_Study_findMoments_68 rec K n) K x u v j t p F B = rec (j + 1) t p (zup3 F 9 t 0 (j + 1)) B' ∧ stB t B B' ∧ SBb t B' := fun x hx => o136 x 0 (Or.inl ⟨rfl, hx⟩)
    rw [f_Study_findMoments_68, if_pos h.1, if_pos (by unfold r32; omega), if_pos (by unfold r32; omega), if_neg (by first | decide | omega), if_pos (by first | decide | omega), if_pos ht, if_pos (by unfold r32; omega), if_pos zm, if_pos q0, if_pos (by unfold r32; omega), q1, if_pos (by unfold r32; omega)]
    by_cases c : m ≤ B 9 t (280 + u.toNat) (zmax (j - 1) 0) + 1
    · rw [if_pos c]; exact o135 _ (by first | decide | omega)
    obtain ⟨k1, k2, k3⟩ := q3 (B 9 t (280 + u.toNat) (zmax (j - 1) 0) + 1) (by first | decide | omega) (by first | decide | omega)
    rw [if_neg c, if_pos (by first | decide | omega), if_pos k1.1, if_pos (by unfold r64; omega), if_pos (by unfold r64; omega)]
    by_cases c1 : zcmp (F 1 (B 4 (B 6 p 0 u) 5 (B 9 t (280 + u.toNat) (zmax (j - 1) 0) + 1)) 0) v = 0
    · rw [if_pos c1]; exact o136 _ 1 (Or.inr ⟨rfl, (by first | decide | omega)⟩)
    · rw [if_neg c1]; exact o135 _ (by first | decide | omega)
theorem C_fm29 {F0 : zF} {B0 : zB} (hK : 60000 ≤ K.1) (h : PQs K V p F0 B0) (ht : 0 ≤ t ∧ t < K.2 9) : ∀ (d N : Nat) (j : Int) (F : zF) (B : zB), j + d = 800 → 0 ≤ j → d < N → stF t F0 F → stB t B0 B → SBb t B → F 9 t 0 = j → F 9 t 2 = F0 9 t 2 → ∃ F' B', f_Study_findMoments_29 K N j t p F B = some (0, F', B') ∧ stF t F0 F' ∧ stB t B0 B' ∧ SBb t B' ∧ (0 ≤ F' 9 t 0 ∧ F' 9 t 0 ≤ 800) ∧ F' 9 t 2 = F0 9 t 2 := by
  intro d
  induction d with
  | zero =>
    intro N j F B hj j0 hN f b hS h0 h2
    obtain ⟨n, rfl⟩ : ∃ n, N = n + 1 := ⟨N - 1, (by first | decide | omega)⟩
    rw [f_Study_findMoments_29, if_pos ht, if_pos (by unfold r32; omega), if_pos (by first | decide | omega)]
    exact ⟨F, B, rfl, f, b, hS, (by first | decide | omega), h2⟩
  | succ d ih =>
    intro N j F B hj j0 hN f b hS h0 h2
    obtain ⟨n, rfl⟩ : ∃ n, N = n + 1 := ⟨N - 1, (by first | decide | omega)⟩
    have hq := PKs_f h f b
    have hV := hq.2.1
    have zm : 0 ≤ zmax (j - 1) 0 ∧ zmax (j - 1) 0 < 800 := by unfold zmax; split <;> omega
    obtain ⟨r, e, r0, r1⟩ := C_snp hq ht hS zm V.toNat K.1 0 (-1) (by first | decide | omega) (by decide) (by first | decide | omega) (by first | decide | omega)
    have e' : f_Study_nextPlace K t p (zmax (j - 1) 0) F B = some (r, F, B) := e
    rw [f_Study_findMoments_29, if_pos ht, if_pos (by unfold r32; omega), if_neg (by first | decide | omega), if_pos (by unfold r32; omega), e', zb_s, if_pos (by unfold r64; omega)]
    by_cases c : 0 ≤ zcmp r 0
    · have rp : 0 ≤ r := by unfold zcmp at c; split at c <;> omega
      rw [if_pos c, if_pos (by first | decide | omega)]
      obtain ⟨B1, g1, g2, g3⟩ := C_fm68 (V := V) (p := p) (v := r) (j := j) (F := F) (rec := f_Study_findMoments_29 K n) ht (by first | decide | omega) (by first | decide | omega) V.toNat K.1 0 (zup4 B 9 t 1 j r) (by first | decide | omega) (by decide) (by first | decide | omega) (PKs_f hq stF_r stB_w) (SB_w hS (by first | decide | omega) (by first | decide | omega) (by first | decide | omega) (by first | decide | omega) (by first | decide | omega))
      rw [g1]
      exact ih n (j + 1) _ B1 (by first | decide | omega) (by first | decide | omega) (by first | decide | omega) (stF_t f (stF_w (by first | decide | omega))) (stB_t b (stB_t stB_w g2)) g3 (by rw [zup3_v, if_pos ⟨rfl, rfl, rfl⟩]) (by rw [zup3_v, if_neg (by first | decide | omega)]; exact h2)
    · rw [if_neg c]
      exact ⟨F, B, rfl, f, b, hS, (by first | decide | omega), h2⟩
theorem C_fm7 {F : zF} (ht : 0 ≤ t ∧ t < K.2 9) : ∀ (d N : Nat) (i : Int) (B : zB), i + d = 4 → 0 ≤ i → d < N → SBb t B → ∃ B', f_Study_findMoments_7 K N i t p F B = f_Study_findMoments_29 K K.1 0 t p F B' ∧ stB t B B' ∧ SBb t B' := by
  intro d
  induction d with
  | zero =>
    intro N i B hi i0 hN hS
    obtain ⟨n, rfl⟩ : ∃ n, N = n + 1 := ⟨N - 1, (by first | decide | omega)⟩
    rw [f_Study_findMoments_7, if_pos (by unfold r32; omega), if_pos (by first | decide | omega)]
    exact ⟨B, rfl, stB_r, hS⟩
  | succ d ih =>
    intro N i B hi i0 hN hS
    obtain ⟨n, rfl⟩ : ∃ n, N = n + 1 := ⟨N - 1, (by first | decide | omega)⟩
    rw [f_Study_findMoments_7, if_pos (by unfold r32; omega), if_neg (by first | decide | omega), if_pos ht, if_pos (by first | decide | omega)]
    obtain ⟨B', g1, g2, g3⟩ := ih n (i + 1) (zup4 B 9 t (280 + i.toNat) 0 (-1)) (by first | decide | omega) (by first | decide | omega) (by first | decide | omega) (SB_w hS (by first | decide | omega) (by first | decide | omega) (by first | decide | omega) (by first | decide | omega) (by first | decide | omega))
    exact ⟨B', g1, stB_t stB_w g2, g3⟩
theorem C_fmo {F : zF} {B : zB} (hK : 60000 ≤ K.1) (h : PQs K V p F B) (ht : 0 ≤ t ∧ t < K.2 9) (hS : SBb t B) : ∃ F' B', f_Study_findMoments K t p F B = some (0, F', B') ∧ stF t F F' ∧ stB t B B' ∧ SBb t B' ∧ (0 ≤ F' 9 t 0 ∧ F' 9 t 0 ≤ 800) := by
  obtain ⟨B1, e, g1, g2⟩ := C_fm7 (p := p) (F := zup3 F 9 t 0 0) ht 4 K.1 0 B (by first | decide | omega) (by decide) (by first | decide | omega) hS
  obtain ⟨F2, B2, e2, k1, k2, k3, k4, _⟩ := C_fm29 (F0 := zup3 F 9 t 0 0) (B0 := B1) hK (PKs_f h (stF_w (by first | decide | omega)) g1) ht 800 K.1 0 (zup3 F 9 t 0 0) B1 (by first | decide | omega) (by decide) (by first | decide | omega) stF_r stB_r g2 (by rw [zup3_v, if_pos ⟨rfl, rfl, rfl⟩]) rfl
  unfold f_Study_findMoments
  rw [if_pos ht, e, e2]
  exact ⟨F2, B2, rfl, stF_t (stF_w (by first | decide | omega)) k1, stB_t g1 k2, k3, k4⟩
theorem C_tl2 {j : Int} {F : zF} (hK : 60000 ≤ K.1) (ht : 0 ≤ t ∧ t < K.2 9) (hj : 0 ≤ j ∧ j < 800) : ∀ (d N : Nat) (u : Int) (B : zB), u + d = V → 0 ≤ u → d < N → PQs K V p F B → SBb t B → ∃ B', f_Study_takeLines_2 K N u t p j F B = some (0, F, B') ∧ stB t B B' ∧ SBb t B' := by
  intro d
  induction d with
  | zero =>
    intro N u B hu u0 hN h hS
    obtain ⟨n, rfl⟩ : ∃ n, N = n + 1 := ⟨N - 1, (by first | decide | omega)⟩
    have hV := h.2.1
    rw [f_Study_takeLines_2, if_pos h.1, if_pos (by unfold r32; omega), if_pos (by unfold r32; omega), if_pos (by first | decide | omega)]
    exact ⟨B, rfl, stB_r, hS⟩
  | succ d ih =>
    intro N u B hu u0 hN h hS
    obtain ⟨n, rfl⟩ : ∃ n, N = n + 1 := ⟨N - 1, (by first | decide | omega)⟩
    have hV := h.2.1
    obtain ⟨r, e, hr⟩ := C_evO h ht hS u0 (by first | decide | omega) hj
    have s5 := (hS.2.2 u).1
    have s6 := (hS.2.2 u).2.1
    have hS1 : SBb t (zup4 B 9 t 7 u (B 9 t 5 u)) := SB_w hS (by first | decide | omega) (by first | decide | omega) (by first | decide | omega) (by first | decide | omega) (by first | decide | omega)
    have e6 : (zup4 B 9 t 7 u (B 9 t 5 u)) 9 t 6 u = B 9 t 6 u := by rw [zup4_v, if_neg (by first | decide | omega)]
    have hS2 : SBb t (zup4 (zup4 B 9 t 7 u (B 9 t 5 u)) 9 t 8 u (B 9 t 6 u)) := SB_w hS1 (by first | decide | omega) (by first | decide | omega) (by first | decide | omega) (by first | decide | omega) (by first | decide | omega)
    have hB2 : stB t B (zup4 (zup4 B 9 t 7 u (B 9 t 5 u)) 9 t 8 u (B 9 t 6 u)) := stB_t stB_w stB_w
    rw [f_Study_takeLines_2, if_pos h.1, if_pos (by unfold r32; omega), if_pos (by unfold r32; omega), if_neg (by first | decide | omega), if_pos ht, e, zb_s, if_pos (by first | decide | omega), e6]
    generalize zup4 (zup4 B 9 t 7 u (B 9 t 5 u)) 9 t 8 u (B 9 t 6 u) = B2 at hS2 hB2 ⊢
    have h2 := PKs_f h stF_r hB2
    -- what is taken of one voice
    have o136 : ∀ (C : zB) (y : Int), stB t B2 C → SBb t C → (-1 ≤ y ∧ y ≤ 200) → ∃ B', f_Study_takeLines_136 (f_Study_takeLines_2 K n) K u t p j t u y F C = some (0, F, B') ∧ stB t B B' ∧ SBb t B' := fun C y hC sC hy => by
      unfold f_Study_takeLines_136
      rw [if_pos ht, if_pos (by first | decide | omega)]
      obtain ⟨B', g1, g2, g3⟩ := ih n (u + 1) (zup4 C 9 t 6 u y) (by first | decide | omega) (by first | decide | omega) (by first | decide | omega) (PKs_f h2 stF_r (stB_t hC stB_w)) (SB_w sC (by first | decide | omega) (by first | decide | omega) (by first | decide | omega) (by first | decide | omega) (by first | decide | omega))
      exact ⟨B', g1, stB_t hB2 (stB_t hC (stB_t stB_w g2)), g3⟩
    have o89 : ∀ (a x s : Int), (s = 0 ∨ s = 1) → (x = -1 ∨ (EKc K a F B2 ∧ 0 ≤ x ∧ x < F 1 a 10)) → ∃ B', f_Study_takeLines_89 (f_Study_takeLines_2 K n) K x a u t p j t u s F B2 = some (0, F, B') ∧ stB t B B' ∧ SBb t B' := fun a x s hs hx => by
      have sA : SBb t (zup4 B2 9 t 9 u s) := SB_w hS2 (by first | decide | omega) (by first | decide | omega) (by first | decide | omega) (by first | decide | omega) (by first | decide | omega)
      have o113 : ∀ y, (-1 ≤ y ∧ y ≤ 62) → ∃ B', f_Study_takeLines_113 (f_Study_takeLines_2 K n) K x a u t p j t u y F (zup4 B2 9 t 9 u s) = some (0, F, B') ∧ stB t B B' ∧ SBb t B' := fun y hy => by
        have sC : SBb t (zup4 (zup4 B2 9 t 9 u s) 9 t 5 u y) := SB_w sA (by first | decide | omega) (by first | decide | omega) (by first | decide | omega) (by first | decide | omega) (by first | decide | omega)
        have bC : stB t B2 (zup4 (zup4 B2 9 t 9 u s) 9 t 5 u y) := stB_t stB_w stB_w
        unfold f_Study_takeLines_113
        rw [if_pos ht, if_pos (by first | decide | omega), if_pos ht]
        rcases hx with z | ⟨ek, x0, x1⟩
        · rw [if_pos (by unfold r32; omega), if_pos z]
          exact o136 _ _ bC sC (by first | decide | omega)
        · have k10 := ek.2.1
          have kx := ek.2.2 x x0 x1
          have cb : ∀ k z, (zup4 (zup4 B2 9 t 9 u s) 9 t 5 u y) 1 a k z = B2 1 a k z := fun k z => bC 1 a k z (by first | decide | omega)
          have et := C_tone (K := K) (F := F) (B := zup4 (zup4 B2 9 t 9 u s) 9 t 5 u y) (e := a) (k := x) ek.1 (by first | decide | omega) (by rw [cb]; exact kx.1)
          have tb := tnv_r kx.1.1 kx.1.2 kx.2.1 kx.2.2
          rw [if_pos (by unfold r32; omega), if_neg (by first | decide | omega), if_pos ek.1, et, zb_s, cb, cb]
          exact o136 _ _ bC sC (by first | decide | omega)
      unfold f_Study_takeLines_89
      rw [if_pos ht, if_pos (by first | decide | omega), if_pos hs, if_pos ht]
      rcases hx with z | ⟨ek, x0, x1⟩
      · rw [if_pos (by unfold r32; omega), if_pos z]; exact o113 (-1) (by first | decide | omega)
      · have k10 := ek.2.1
        have kx := ek.2.2 x x0 x1
        rw [if_pos (by unfold r32; omega), if_neg (by first | decide | omega), if_pos ek.1, if_pos (by first | decide | omega), show (zup4 B2 9 t 9 u s) 1 a 12 x = B2 1 a 12 x by rw [zup4_v, if_neg (by first | decide | omega)]]
        exact o113 _ (by first | decide | omega)
    have o57 : ∀ (a x : Int), (a < 0 ∧ x = -1) ∨ (EKc K a F B2 ∧ (0 ≤ F 1 a 0 ∧ F 1 a 0 ≤ 1000000000000) ∧ (x = -1 ∨ (0 ≤ x ∧ x < F 1 a 10))) → ∃ B', f_Study_takeLines_57 (f_Study_takeLines_2 K n) K a u t p j x F B2 = some (0, F, B') ∧ stB t B B' ∧ SBb t B' := fun a x hx => by
      unfold f_Study_takeLines_57 f_Study_takeLines_88
      rw [if_pos ht]
      rcases hx with ⟨a0, z⟩ | ⟨ek, pl, z⟩
      · rw [if_pos a0]; exact o89 a x 0 (Or.inl rfl) (Or.inl z)
      · have z' : x = -1 ∨ (EKc K a F B2 ∧ 0 ≤ x ∧ x < F 1 a 10) := by
          rcases z with z | z
          · exact Or.inl z
          · exact Or.inr ⟨ek, z⟩
        have b1 := hS2.1 j
        rw [if_neg (by have := ek.1; omega), if_pos ek.1, if_pos hj, if_pos (by unfold r64; omega), if_pos (by unfold r64; omega)]
        by_cases c : zcmp (F 1 a 0) (B2 9 t 1 j) = 0
        · rw [if_pos c]; exact o89 a x 1 (Or.inr rfl) z'
        · rw [if_neg c]; exact o89 a x 0 (Or.inl rfl) z'
    rcases hr with r1 | ⟨ek, pl⟩
    · rw [if_pos (by first | decide | omega)]; exact o57 r (-1) (Or.inl ⟨(by first | decide | omega), rfl⟩)
    · have ek2 : EKc K r F B2 := by
        unfold EKc at *
        simp only [hB2 1 r 12 _ (by first | decide | omega), hB2 1 r 13 _ (by first | decide | omega)]
        exact ek
      have hc := ek2.2.1
      obtain ⟨x, e1, x0, x1⟩ := C_top4 ek2 (F 1 r 10).toNat K.1 0 (-1) (by first | decide | omega) (by first | decide | omega) (by first | decide | omega) (by first | decide | omega) (by first | decide | omega)
      have e1' : f_Event_top K r F B2 = some (x, F, B2) := e1
      rw [if_neg (by have := ek.1; omega), if_pos ek.1, e1', zb_s]
      exact o57 r x (Or.inr ⟨ek2, pl, (by first | decide | omega)⟩)
end
end
end
section
section
/-! ===== study: moments, class, exactly ===== -/
variable {K : zK} {V p t : Int} {S : zV}
/-- the class's events are S -/
def SCl (K : zK) (V p : Int) (S : zV) (F : zF) (B : zB) : Prop := (0 ≤ p ∧ p < K.2 6) ∧ F 6 p 1 = V ∧ ∀ u, 0 ≤ u → u < V → (0 ≤ B 6 p 0 u ∧ B 6 p 0 u < K.2 4) ∧ F 4 (B 6 p 0 u) 6 = S u 0 0 0 ∧ ∀ i, 0 ≤ i → i < S u 0 0 0 → (0 ≤ B 4 (B 6 p 0 u) 5 i ∧ B 4 (B 6 p 0 u) 5 i < K.2 1) ∧ F 1 (B 4 (B 6 p 0 u) 5 i) 0 = S u 1 i 0 ∧ F 1 (B 4 (B 6 p 0 u) 5 i) 10 = S u 2 i 0 ∧ ∀ j, 0 ≤ j → j < S u 2 i 0 → B 1 (B 4 (B 6 p 0 u) 5 i) 12 j = S u 3 i j ∧ B 1 (B 4 (B 6 p 0 u) 5 i) 13 j = S u 4 i j
theorem SCl_f {F F' : zF} {B B' : zB} (h : SCl K V p S F B) (f : stF t F F') (b : stB t B B') : SCl K V p S F' B' := by
  have f6 : ∀ k, F' 6 p k = F 6 p k := fun k => f 6 p k (by first | decide | omega)
  have b6 : ∀ x, B' 6 p 0 x = B 6 p 0 x := fun x => b 6 p 0 x (by first | decide | omega)
  have f4 : ∀ q k, F' 4 q k = F 4 q k := fun q k => f 4 q k (by first | decide | omega)
  have b4 : ∀ q k x, B' 4 q k x = B 4 q k x := fun q k x => b 4 q k x (by first | decide | omega)
  have g1 : ∀ q k, F' 1 q k = F 1 q k := fun q k => f 1 q k (by first | decide | omega)
  have c1 : ∀ q k x, B' 1 q k x = B 1 q k x := fun q k x => b 1 q k x (by first | decide | omega)
  unfold SCl at *
  simp only [f6, b6, f4, b4, g1, c1]
  exact h
theorem SCl_m {K' : zK} {F F' : zF} {B B' : zB} (h : SCl K V p S F B) (kk : ∀ c, K.2 c ≤ K'.2 c) (f6 : F' 6 p 1 = F 6 p 1) (b6 : ∀ x, B' 6 p 0 x = B 6 p 0 x) (f4 : ∀ y k, y < K.2 4 → F' 4 y k = F 4 y k) (b4 : ∀ y k x, y < K.2 4 → B' 4 y k x = B 4 y k x) (f1 : ∀ y k, y < K.2 1 → F' 1 y k = F 1 y k) (b1 : ∀ y k x, y < K.2 1 → B' 1 y k x = B 1 y k x) : SCl K' V p S F' B' := by
  have k6 := kk 6
  have k4 := kk 4
  have k1 := kk 1
  obtain ⟨h1, h2, h3⟩ := h
  refine ⟨⟨h1.1, (by first | decide | omega)⟩, by rw [f6]; exact h2, fun u u0 u1 => ?_⟩
  obtain ⟨q0, q1, q2⟩ := h3 u u0 u1
  rw [b6]
  refine ⟨⟨q0.1, (by first | decide | omega)⟩, by rw [f4 _ 6 q0.2]; exact q1, fun i i0 i1 => ?_⟩
  obtain ⟨e1, e2, e3, e4⟩ := q2 i i0 i1
  rw [b4 _ 5 i q0.2, f1 _ 0 e1.2, f1 _ 10 e1.2]
  refine ⟨⟨e1.1, (by first | decide | omega)⟩, e2, e3, fun j j0 j1 => ?_⟩
  rw [b1 _ 12 j e1.2, b1 _ 13 j e1.2]
  exact e4 j j0 j1
theorem SCl_k {w : Int} {F Fm : zF} {B Bm : zB} (h : PK K V p w F B Fm Bm) (hS : SG V S) (hR : SRm V w S Fm Bm) : SCl K V p S F B := by
  obtain ⟨⟨h1, h2, h3, h4, h5⟩, ⟨k2, k3, k4, k5, k6, k7⟩, hv⟩ := h
  refine ⟨h1, h4, fun u u0 u1 => ?_⟩
  obtain ⟨hH, m, g, vk, _⟩ := hv u u0 u1
  obtain ⟨⟨a1, a2, a3⟩, a4, a5, a6, a7, a8, a9, a10, c, nw, qn, gb⟩ := vk
  obtain ⟨r1, r2⟩ := hR.2.2 u u0 u1
  have e0 : S u 0 0 0 = m := by rw [← r1]; exact a4
  refine ⟨hH.1, by rw [e0]; exact a1, fun i i0 i1 => ?_⟩
  obtain ⟨j, rfl⟩ : ∃ j : Nat, i = j := ⟨i.toNat, (by first | decide | omega)⟩
  have i2 : (j : Int) < m := by rw [← e0]; exact i1
  obtain ⟨s1, s2, s3, s4⟩ := r2 j i0 i1
  obtain ⟨ev, q1, q2, q3, _⟩ := a8 j (by first | decide | omega)
  have ep := ev.2.2.2.2.2.2.2.2.2.2
  have g3 := (hS.2 u u0 u1).2.2.1 j i0 i1
  have t0 := sumZ_0 a5 j (by first | decide | omega)
  have pl : F 1 (B 4 (B 6 p 0 u) 5 j) 0 = S u 1 j 0 := by rw [q1]; exact nd_iv t0 g3.1.1 (by rw [← q2, s1]) (by rw [← q3, s2])
  have cn : F 1 (B 4 (B 6 p 0 u) 5 j) 10 = S u 2 j 0 := by rw [← ep.2.1, s3]
  refine ⟨(qn.2.2.2.2.2.1 j i0 i2).1, pl, cn, fun k k0 k1 => ?_⟩
  obtain ⟨y1, y2⟩ := s4 k k0 k1
  rw [← cn] at k1
  obtain ⟨z1, z2, _⟩ := ep.2.2.2.1 k k0 k1
  exact ⟨by rw [z1, y1], by rw [z2, y2]⟩
/-- of the voices before u, the nearest next event; e: where each voice is -/
def NPx (S : zV) (e : Int → Int) (u v : Int) : Prop := (v = -1 ∧ ∀ u', 0 ≤ u' → u' < u → ¬ e u' + 1 < S u' 0 0 0) ∨ (0 ≤ v ∧ v ≤ 1000000000000 ∧ (∃ u', 0 ≤ u' ∧ u' < u ∧ e u' + 1 < S u' 0 0 0 ∧ S u' 1 (e u' + 1) 0 = v) ∧ ∀ u', 0 ≤ u' → u' < u → e u' + 1 < S u' 0 0 0 → v ≤ S u' 1 (e u' + 1) 0)
theorem C_npx {j : Int} {e : Int → Int} {F : zF} {B : zB} (hS : SG V S) (h : SCl K V p S F B) (ht : 0 ≤ t ∧ t < K.2 9) (hj : 0 ≤ j ∧ j < 800) (he : ∀ u, 0 ≤ u → u < V → B 9 t (280 + u.toNat) j = e u ∧ -1 ≤ e u ∧ e u < S u 0 0 0) : ∀ (d N : Nat) (u v : Int), u + d = V → 0 ≤ u → d < N → NPx S e u v → ∃ r, f_Study_nextPlace_7 K N u v t p j F B = some (r, F, B) ∧ NPx S e V r := by
  have v4 := hS.1
  obtain ⟨h1, h2, h3⟩ := h
  intro d
  induction d with
  | zero =>
    intro N u v hu u0 hN hv
    obtain ⟨n, rfl⟩ : ∃ n, N = n + 1 := ⟨N - 1, (by first | decide | omega)⟩
    rw [f_Study_nextPlace_7, if_pos h1, if_pos (show r32 u by unfold r32; omega), h2, if_pos (show r32 V by unfold r32; omega), if_pos (show V ≤ u by omega)]
    rw [show u = V by omega] at hv
    exact ⟨v, rfl, hv⟩
  | succ d ih =>
    intro N u v hu u0 hN hv
    obtain ⟨n, rfl⟩ : ∃ n, N = n + 1 := ⟨N - 1, (by first | decide | omega)⟩
    obtain ⟨q0, q1, q2⟩ := h3 u u0 (by first | decide | omega)
    obtain ⟨g1, _, g3, _⟩ := hS.2 u u0 (by first | decide | omega)
    obtain ⟨b1, b2, b3⟩ := he u u0 (by first | decide | omega)
    rw [f_Study_nextPlace_7, if_pos h1, if_pos (show r32 u by unfold r32; omega), h2, if_pos (show r32 V by unfold r32; omega), if_neg (show ¬ V ≤ u by omega), if_pos (show 0 ≤ u ∧ u < 4 by omega), if_pos ht, if_pos hj, if_pos q0, b1, if_pos (show r32 (e u + 1) by unfold r32; omega), q1, if_pos (show r32 (S u 0 0 0) by unfold r32; omega)]
    have stay : (¬ e u + 1 < S u 0 0 0 ∨ (0 ≤ v ∧ v ≤ S u 1 (e u + 1) 0)) → NPx S e (u + 1) v := fun z => by
      rcases hv with ⟨a1, a2⟩ | ⟨a0, a1, ⟨u', x0, x1, x2, x3⟩, a2⟩
      · refine Or.inl ⟨a1, fun u' y0 y1 => ?_⟩
        by_cases y : u' = u
        · rw [y]; rcases z with z | z
          · exact z
          · omega
        · exact a2 u' y0 (by first | decide | omega)
      · refine Or.inr ⟨a0, a1, ⟨u', x0, (by first | decide | omega), x2, x3⟩, fun u' y0 y1 y2 => ?_⟩
        by_cases y : u' = u
        · rw [y] at y2 ⊢
          rcases z with z | z
          · exact absurd y2 z
          · exact z.2
        · exact a2 u' y0 (by first | decide | omega) y2
    by_cases c : S u 0 0 0 ≤ e u + 1
    · rw [if_pos c, f_Study_nextPlace_82]
      exact ih n (u + 1) v (by first | decide | omega) (by first | decide | omega) (by first | decide | omega) (stay (Or.inl (by first | decide | omega)))
    obtain ⟨k1, k2, _⟩ := q2 (e u + 1) (by first | decide | omega) (by first | decide | omega)
    obtain ⟨y0, y1⟩ := (g3 (e u + 1) (by first | decide | omega) (by first | decide | omega)).1
    have vb : r64 v := by
      unfold r64
      rcases hv with ⟨a1, _⟩ | ⟨a0, a1, _⟩
      · omega
      · omega
    have o70 : v < 0 ∨ S u 1 (e u + 1) 0 < v → ∃ r, f_Study_nextPlace_70 (f_Study_nextPlace_7 K n) K (e u + 1) (B 6 p 0 u) u t p j F B = some (r, F, B) ∧ NPx S e V r := fun z => by
      rw [f_Study_nextPlace_70, if_pos q0, if_pos (show 0 ≤ e u + 1 ∧ e u + 1 < 200 by omega), if_pos k1, k2, f_Study_nextPlace_82]
      refine ih n (u + 1) _ (by first | decide | omega) (by first | decide | omega) (by first | decide | omega) (Or.inr ⟨y0, y1, ⟨u, u0, (by first | decide | omega), (by first | decide | omega), rfl⟩, fun u' z0 z1 z2 => ?_⟩)
      by_cases y : u' = u
      · rw [y]; exact Int.le_refl _
      · rcases hv with ⟨a1, a2⟩ | ⟨a0, a1, _, a2⟩
        · exact absurd z2 (a2 u' z0 (by first | decide | omega))
        · have := a2 u' z0 (by first | decide | omega) z2
          omega
    rw [if_neg c, if_pos vb]
    by_cases c1 : zcmp v 0 < 0
    · rw [if_pos c1]; exact o70 (Or.inl (zcmp_lt.mp c1))
    have v0 : 0 ≤ v := by
      by_cases z : v < 0
      · exact absurd (zcmp_lt.mpr z) c1
      · omega
    rw [if_neg c1, if_pos (show 0 ≤ e u + 1 ∧ e u + 1 < 200 by omega), if_pos k1, k2, if_pos (show r64 (S u 1 (e u + 1) 0) by unfold r64; omega)]
    by_cases c2 : 0 ≤ zcmp (S u 1 (e u + 1) 0) v
    · rw [if_pos c2, f_Study_nextPlace_82]
      exact ih n (u + 1) v (by first | decide | omega) (by first | decide | omega) (by first | decide | omega) (stay (Or.inr ⟨v0, zcmp_o.mp c2⟩))
    · rw [if_neg c2]
      refine o70 (Or.inr ?_)
      by_cases z : S u 1 (e u + 1) 0 < v
      · exact z
      · exact absurd (zcmp_o.mpr (show v ≤ S u 1 (e u + 1) 0 by omega)) c2
/-- where a voice is behind moment v -/
def nxE (S : zV) (e : Int → Int) (v u : Int) : Int := if e u + 1 < S u 0 0 0 ∧ S u 1 (e u + 1) 0 = v then e u + 1 else e u
def m28 (t j : Int) (B B' : zB) : Prop := ∀ c y k x, ¬ (c = 9 ∧ y = t ∧ 280 ≤ k ∧ k ≤ 283 ∧ x = j) → B' c y k x = B c y k x
theorem C_fm68x {v j : Int} {e : Int → Int} {F : zF} {rec : Int → Int → Int → zF → zB → zO} (hS : SG V S) (ht : 0 ≤ t ∧ t < K.2 9) (hj : 0 ≤ j ∧ j < 800) (hv : 0 ≤ v ∧ v ≤ 1000000000000) : ∀ (d N : Nat) (u : Int) (B : zB), u + d = V → 0 ≤ u → d < N → SCl K V p S F B → (∀ u', u ≤ u' → u' < V → B 9 t (280 + u'.toNat) (zmax (j - 1) 0) = e u' ∧ -1 ≤ e u' ∧ e u' < S u' 0 0 0) → ∃ B', f_Study_findMoments_68 rec K N u v j t p F B = rec (j + 1) t p (zup3 F 9 t 0 (j + 1)) B' ∧ m28 t j B B' ∧ (∀ u', 0 ≤ u' → u' < u → B' 9 t (280 + u'.toNat) j = B 9 t (280 + u'.toNat) j) ∧ ∀ u', u ≤ u' → u' < V → B' 9 t (280 + u'.toNat) j = nxE S e v u' := by
  have v4 := hS.1
  have zm : 0 ≤ zmax (j - 1) 0 ∧ zmax (j - 1) 0 < 800 := by unfold zmax; split <;> omega
  intro d
  induction d with
  | zero =>
    intro N u B hu u0 hN h he
    obtain ⟨n, rfl⟩ : ∃ n, N = n + 1 := ⟨N - 1, (by first | decide | omega)⟩
    rw [f_Study_findMoments_68, if_pos h.1, if_pos (show r32 u by unfold r32; omega), h.2.1, if_pos (show r32 V by unfold r32; omega), if_pos (show V ≤ u by omega), if_pos ht]
    exact ⟨B, rfl, fun _ _ _ _ _ => rfl, fun _ _ _ => rfl, fun u' a b => (by first | decide | omega)⟩
  | succ d ih =>
    intro N u B hu u0 hN h he
    obtain ⟨n, rfl⟩ : ∃ n, N = n + 1 := ⟨N - 1, (by first | decide | omega)⟩
    have h' := h
    obtain ⟨h1, h2, h3⟩ := h
    obtain ⟨q0, q1, q2⟩ := h3 u u0 (by first | decide | omega)
    obtain ⟨g1, _, g3, _⟩ := hS.2 u u0 (by first | decide | omega)
    obtain ⟨b1, b2, b3⟩ := he u (Int.le_refl _) (by first | decide | omega)
    have o160 : ∀ y, y = nxE S e v u → ∃ B', f_Study_findMoments_160 rec (f_Study_findMoments_68 rec K n) K u v j t p t u j y F B = rec (j + 1) t p (zup3 F 9 t 0 (j + 1)) B' ∧ m28 t j B B' ∧ (∀ u', 0 ≤ u' → u' < u → B' 9 t (280 + u'.toNat) j = B 9 t (280 + u'.toNat) j) ∧ ∀ u', u ≤ u' → u' < V → B' 9 t (280 + u'.toNat) j = nxE S e v u' := fun y hy => by
      rw [f_Study_findMoments_160, if_pos ht, if_pos (show 0 ≤ u ∧ u < 4 by omega), if_pos hj]
      obtain ⟨B', x1, x2, x3, x4⟩ := ih n (u + 1) (zup4 B 9 t (280 + u.toNat) j y) (by first | decide | omega) (by first | decide | omega) (by first | decide | omega) (SCl_f h' stF_r stB_w) (fun u' a b => by
        rw [zup4_v, if_neg (by first | decide | omega)]
        exact he u' (by first | decide | omega) b)
      refine ⟨B', x1, fun c y k x nn => by rw [x2 c y k x nn, zup4_v, if_neg (by first | decide | omega)], fun u' a b => by rw [x3 u' a (by first | decide | omega), zup4_v, if_neg (by first | decide | omega)], fun u' a b => ?_⟩
      by_cases z : u' = u
      · rw [z, x3 u u0 (by first | decide | omega), zup4_v, if_pos ⟨rfl, rfl, rfl, rfl⟩, hy]
      · exact x4 u' (by first | decide | omega) b
    have o135 : ¬ (e u + 1 < S u 0 0 0 ∧ S u 1 (e u + 1) 0 = v) → ∃ B', f_Study_findMoments_135 rec (f_Study_findMoments_68 rec K n) K (e u + 1) u v j t p F B = rec (j + 1) t p (zup3 F 9 t 0 (j + 1)) B' ∧ m28 t j B B' ∧ (∀ u', 0 ≤ u' → u' < u → B' 9 t (280 + u'.toNat) j = B 9 t (280 + u'.toNat) j) ∧ ∀ u', u ≤ u' → u' < V → B' 9 t (280 + u'.toNat) j = nxE S e v u' := fun z => by
      rw [f_Study_findMoments_135, f_Study_findMoments_136, if_pos ht, if_pos (show 0 ≤ u ∧ u < 4 by omega), if_pos (show r32 0 by decide), if_pos (show (0 : Int) = 0 from rfl)]
      exact o160 _ (by unfold nxE; rw [if_neg z]; omega)
    rw [f_Study_findMoments_68, if_pos h1, if_pos (show r32 u by unfold r32; omega), h2, if_pos (show r32 V by unfold r32; omega), if_neg (show ¬ V ≤ u by omega), if_pos (show 0 ≤ u ∧ u < 4 by omega), if_pos ht, if_pos (show r32 (j - 1) by unfold r32; omega), if_pos zm, if_pos q0, b1, if_pos (show r32 (e u + 1) by unfold r32; omega), q1, if_pos (show r32 (S u 0 0 0) by unfold r32; omega)]
    by_cases c : S u 0 0 0 ≤ e u + 1
    · rw [if_pos c]; exact o135 (by first | decide | omega)
    obtain ⟨k1, k2, _⟩ := q2 (e u + 1) (by first | decide | omega) (by first | decide | omega)
    obtain ⟨y0, y1⟩ := (g3 (e u + 1) (by first | decide | omega) (by first | decide | omega)).1
    rw [if_neg c, if_pos (show 0 ≤ e u + 1 ∧ e u + 1 < 200 by omega), if_pos k1, k2, if_pos (show r64 (S u 1 (e u + 1) 0) by unfold r64; omega), if_pos (show r64 v by unfold r64; omega)]
    by_cases c1 : zcmp (S u 1 (e u + 1) 0) v = 0
    · rw [if_pos c1, f_Study_findMoments_136, if_pos ht, if_pos (show 0 ≤ u ∧ u < 4 by omega), if_pos (show r32 1 by decide), if_neg (show ¬ (1 : Int) = 0 by decide)]
      exact o160 _ (by unfold nxE; rw [if_pos ⟨(by first | decide | omega), zcmp_0.mp c1⟩])
    · rw [if_neg c1]
      exact o135 (fun z => c1 (zcmp_0.mpr z.2))
/-- how many events are told -/
def s4E (V : Int) (e : Int → Int) : Int := (if 0 < V then e 0 + 1 else 0) + (if 1 < V then e 1 + 1 else 0) + (if 2 < V then e 2 + 1 else 0) + (if 3 < V then e 3 + 1 else 0)
theorem s4E_s {e e' : Int → Int} {u : Int} (hV : 1 ≤ V ∧ V ≤ 4) (u0 : 0 ≤ u) (u1 : u < V) (l : ∀ u', 0 ≤ u' → u' < V → e u' ≤ e' u') (g : e u + 1 ≤ e' u) : s4E V e + 1 ≤ s4E V e' := by
  have l0 := l 0 (by first | decide | omega) (by first | decide | omega)
  have l1 : 1 < V → e 1 ≤ e' 1 := fun z => l 1 (by first | decide | omega) z
  have l2 : 2 < V → e 2 ≤ e' 2 := fun z => l 2 (by first | decide | omega) z
  have l3 : 3 < V → e 3 ≤ e' 3 := fun z => l 3 (by first | decide | omega) z
  have o : u = 0 ∨ u = 1 ∨ u = 2 ∨ u = 3 := by omega
  unfold s4E
  rcases (show V = 1 ∨ V = 2 ∨ V = 3 ∨ V = 4 by omega) with rfl | rfl | rfl | rfl
  · rw [if_pos (by decide), if_neg (by decide), if_neg (by decide), if_neg (by decide), if_pos (by decide), if_neg (by decide), if_neg (by decide), if_neg (by decide)]
    obtain rfl : u = 0 := by omega
    omega
  · have l1 := l1 (by decide)
    rw [if_pos (by decide), if_pos (by decide), if_neg (by decide), if_neg (by decide), if_pos (by decide), if_pos (by decide), if_neg (by decide), if_neg (by decide)]
    rcases (show u = 0 ∨ u = 1 by omega) with rfl | rfl <;> omega
  · have l1 := l1 (by decide)
    have l2 := l2 (by decide)
    rw [if_pos (by decide), if_pos (by decide), if_pos (by decide), if_neg (by decide), if_pos (by decide), if_pos (by decide), if_pos (by decide), if_neg (by decide)]
    rcases (show u = 0 ∨ u = 1 ∨ u = 2 by omega) with rfl | rfl | rfl <;> omega
  · have l1 := l1 (by decide)
    have l2 := l2 (by decide)
    have l3 := l3 (by decide)
    rw [if_pos (by decide), if_pos (by decide), if_pos (by decide), if_pos (by decide), if_pos (by decide), if_pos (by decide), if_pos (by decide), if_pos (by decide)]
    rcases o with rfl | rfl | rfl | rfl <;> omega
theorem s4E_e {e : Int → Int} (hS : SG V S) (hb : ∀ u, 0 ≤ u → u < V → e u < S u 0 0 0) (h : 800 ≤ s4E V e) : ∀ u, 0 ≤ u → u < V → ¬ e u + 1 < S u 0 0 0 := fun u u0 u1 g => by
  have hV := hS.1
  have b : ∀ u, 0 ≤ u → u < V → e u + 1 ≤ 200 := fun u u0 u1 => by have := (hS.2 u u0 u1).1; have := hb u u0 u1; omega
  have b0 := b 0 (by first | decide | omega) (by first | decide | omega)
  have gu := (hS.2 u u0 u1).1
  unfold s4E at h
  rcases (show V = 1 ∨ V = 2 ∨ V = 3 ∨ V = 4 by omega) with rfl | rfl | rfl | rfl
  · rw [if_pos (by decide), if_neg (by decide), if_neg (by decide), if_neg (by decide)] at h
    omega
  · have b1 := b 1 (by decide) (by decide)
    rw [if_pos (by decide), if_pos (by decide), if_neg (by decide), if_neg (by decide)] at h
    omega
  · have b1 := b 1 (by decide) (by decide)
    have b2 := b 2 (by decide) (by decide)
    rw [if_pos (by decide), if_pos (by decide), if_pos (by decide), if_neg (by decide)] at h
    omega
  · have b1 := b 1 (by decide) (by decide)
    have b2 := b 2 (by decide) (by decide)
    have b3 := b 3 (by decide) (by decide)
    rw [if_pos (by decide), if_pos (by decide), if_pos (by decide), if_pos (by decide)] at h
    rcases (show u = 0 ∨ u = 1 ∨ u = 2 ∨ u = 3 by omega) with rfl | rfl | rfl | rfl <;> omega
/-- where each voice is ahead of moment m -/
def eM (L : Int → Int → Int) (m u : Int) : Int := if m = 0 then -1 else L u (m - 1)
def aL (V : Int) (S : zV) (e : Int → Int) (x : Int) : Prop := ∃ u i, 0 ≤ u ∧ u < V ∧ 0 ≤ i ∧ i ≤ e u ∧ S u 1 i 0 = x
/-- the first m moments -/
def M6 (t V m : Int) (S : zV) (T : Int → Int) (L : Int → Int → Int) (B : zB) : Prop := (∀ j, 0 ≤ j → j < m → B 9 t 1 j = T j) ∧ (∀ u j, 0 ≤ u → u < V → 0 ≤ j → j < m → B 9 t (280 + u.toNat) j = L u j) ∧ SI m T ∧ RS m T (aL V S (eM L m)) ∧ LI V S m T L ∧ m ≤ s4E V (eM L m)
theorem eM_0 {L : Int → Int → Int} : eM L 0 = fun _ => -1 := by
  funext u
  unfold eM
  rw [if_pos rfl]
theorem s4E_0 : s4E V (fun _ => -1) = 0 := by
  unfold s4E
  (repeat' split) <;> rfl
theorem eM_b {m u : Int} {T : Int → Int} {L : Int → Int → Int} (hS : SG V S) (h : LI V S m T L) (m0 : 0 ≤ m) (u0 : 0 ≤ u) (u1 : u < V) : -1 ≤ eM L m u ∧ eM L m u < S u 0 0 0 := by
  have g := (hS.2 u u0 u1).1
  unfold eM
  by_cases z : m = 0
  · rw [if_pos z]; omega
  · rw [if_neg z]
    have := (h u (m - 1) u0 u1 (by first | decide | omega) (by first | decide | omega)).1
    omega
/-- one moment more -/
theorem M6_s {m v : Int} {T : Int → Int} {L : Int → Int → Int} {B B' : zB} (hS : SG V S) (m0 : 0 ≤ m) (h : M6 t V m S T L B) (hv : 0 ≤ v) (np : NPx S (eM L m) V v) (e1 : ∀ j, 0 ≤ j → j < m → B' 9 t 1 j = B 9 t 1 j) (e2 : B' 9 t 1 m = v) (e3 : ∀ u j, 0 ≤ u → u < V → 0 ≤ j → j < m → B' 9 t (280 + u.toNat) j = B 9 t (280 + u.toNat) j) (e4 : ∀ u, 0 ≤ u → u < V → B' 9 t (280 + u.toNat) m = nxE S (eM L m) v u) : M6 t V (m + 1) S (fun j => if j = m then v else T j) (fun u j => if j = m then nxE S (eM L m) v u else L u j) B' := by
  have hV := hS.1
  obtain ⟨h1, h2, h3, h4, h5, h6⟩ := h
  rcases np with ⟨z, _⟩ | ⟨_, v1, ⟨w, w0, w1, w2, w3⟩, nm⟩
  · omega
  have eb := fun u u0 u1 => eM_b (u := u) hS h5 m0 u0 u1
  -- ahead of this moment all that is told lies below v
  have lo : ∀ u, 0 ≤ u → u < V → 0 < m → S u 1 (eM L m u) 0 ≤ T (m - 1) := fun u u0 u1 mp => by
    unfold eM; rw [if_neg (by first | decide | omega)]
    exact (h5 u (m - 1) u0 u1 (by first | decide | omega) (by first | decide | omega)).2.1
  have up : 0 < m → T (m - 1) < v := fun mp => by
    have := (h5 w (m - 1) w0 w1 (by first | decide | omega) (by first | decide | omega)).2.2
    have e : eM L m w = L w (m - 1) := by unfold eM; rw [if_neg (by first | decide | omega)]
    rw [e] at w2 w3
    have := this w2
    omega
  have en : eM (fun u j => if j = m then nxE S (eM L m) v u else L u j) (m + 1) = nxE S (eM L m) v := by
    funext u
    show (if m + 1 = 0 then -1 else (if m + 1 - 1 = m then nxE S (eM L m) v u else L u (m + 1 - 1))) = nxE S (eM L m) v u
    rw [if_neg (show ¬ m + 1 = 0 by omega), if_pos (show m + 1 - 1 = m by omega)]
  have ne0 : ∀ u, 0 ≤ u → u < V → 0 ≤ nxE S (eM L m) v u ∧ nxE S (eM L m) v u < S u 0 0 0 ∧ eM L m u ≤ nxE S (eM L m) v u := fun u u0 u1 => by
    have b := eb u u0 u1
    unfold nxE
    by_cases z : eM L m u + 1 < S u 0 0 0 ∧ S u 1 (eM L m u + 1) 0 = v
    · rw [if_pos z]; omega
    · rw [if_neg z]
      by_cases zm : m = 0
      · have e : eM L m u = -1 := by unfold eM; rw [if_pos zm]
        have ew : eM L m w = -1 := by unfold eM; rw [if_pos zm]
        rw [e] at z
        rw [ew] at w3
        have g := hS.2 u u0 u1
        have gw := (hS.2 w w0 w1).2.1
        rw [show (-1 : Int) + 1 = 0 by decide] at z w3
        exact absurd ⟨(by first | decide | omega), by rw [g.2.1, ← w3, gw]⟩ z
      · have e : eM L m u = L u (m - 1) := by unfold eM; rw [if_neg zm]
        have := (h5 u (m - 1) u0 u1 (by first | decide | omega) (by first | decide | omega)).1
        omega
  refine ⟨fun j j0 j1 => ?_, fun u j u0 u1 j0 j1 => ?_, fun j j0 j1 => ?_, ?_, fun u j u0 u1 j0 j1 => ?_, ?_⟩
  · show B' 9 t 1 j = if j = m then v else T j
    by_cases z : j = m
    · rw [if_pos z, z, e2]
    · rw [if_neg z, e1 j j0 (by first | decide | omega)]; exact h1 j j0 (by first | decide | omega)
  · by_cases z : j = m
    · rw [z, e4 u u0 u1]; show nxE S (eM L m) v u = if m = m then nxE S (eM L m) v u else L u m; rw [if_pos rfl]
    · rw [e3 u j u0 u1 j0 (by first | decide | omega), h2 u j u0 u1 j0 (by first | decide | omega)]; show L u j = if j = m then nxE S (eM L m) v u else L u j; rw [if_neg z]
  · show (if j = m then v else T j) < if j + 1 = m then v else T (j + 1)
    rw [if_neg (show ¬ j = m by omega)]
    by_cases z : j + 1 = m
    · rw [if_pos z, show j = m - 1 by omega]; exact up (by first | decide | omega)
    · rw [if_neg z]; exact h3 j j0 (by first | decide | omega)
  · rw [en]
    intro x
    constructor
    · rintro ⟨j, j0, j1, e⟩
      have e : (if j = m then v else T j) = x := e
      by_cases z : j = m
      · rw [if_pos z] at e
        refine ⟨w, eM L m w + 1, w0, w1, by have := eb w w0 w1; omega, ?_, by rw [w3, e]⟩
        unfold nxE
        rw [if_pos ⟨w2, w3⟩]
        exact Int.le_refl _
      · rw [if_neg z] at e
        obtain ⟨u, i, u0, u1, i0, i1, e'⟩ := (h4 x).mp ⟨j, j0, (by first | decide | omega), e⟩
        have := (ne0 u u0 u1).2.2
        exact ⟨u, i, u0, u1, i0, (by first | decide | omega), e'⟩
    · rintro ⟨u, i, u0, u1, i0, i1, e⟩
      by_cases z : i ≤ eM L m u
      · obtain ⟨j, j0, j1, e'⟩ := (h4 x).mpr ⟨u, i, u0, u1, i0, z, e⟩
        exact ⟨j, j0, (by first | decide | omega), by show (if j = m then v else T j) = x; rw [if_neg (by first | decide | omega)]; exact e'⟩
      · unfold nxE at i1
        by_cases y : eM L m u + 1 < S u 0 0 0 ∧ S u 1 (eM L m u + 1) 0 = v
        · rw [if_pos y] at i1
          have ei : i = eM L m u + 1 := by omega
          exact ⟨m, m0, (by first | decide | omega), by show (if m = m then v else T m) = x; rw [if_pos rfl, ← e, ei, y.2]⟩
        · rw [if_neg y] at i1; omega
  · by_cases z : j = m
    · rw [z]
      show (0 ≤ (if m = m then nxE S (eM L m) v u else L u m) ∧ (if m = m then nxE S (eM L m) v u else L u m) < S u 0 0 0) ∧ S u 1 (if m = m then nxE S (eM L m) v u else L u m) 0 ≤ (if m = m then v else T m) ∧ ((if m = m then nxE S (eM L m) v u else L u m) + 1 < S u 0 0 0 → (if m = m then v else T m) < S u 1 ((if m = m then nxE S (eM L m) v u else L u m) + 1) 0)
      rw [if_pos rfl, if_pos rfl]
      obtain ⟨n0, n1, n2⟩ := ne0 u u0 u1
      refine ⟨⟨n0, n1⟩, ?_, fun q => ?_⟩
      · by_cases y : eM L m u + 1 < S u 0 0 0 ∧ S u 1 (eM L m u + 1) 0 = v
        · have e : nxE S (eM L m) v u = eM L m u + 1 := by unfold nxE; rw [if_pos y]
          rw [e, y.2]; exact Int.le_refl _
        · have e : nxE S (eM L m) v u = eM L m u := by unfold nxE; rw [if_neg y]
          rw [e] at n0 ⊢
          by_cases zm : m = 0
          · have : eM L m u = -1 := by unfold eM; rw [if_pos zm]
            omega
          · have a1 := lo u u0 u1 (by first | decide | omega)
            have a2 := up (by first | decide | omega)
            omega
      · by_cases y : eM L m u + 1 < S u 0 0 0 ∧ S u 1 (eM L m u + 1) 0 = v
        · have e : nxE S (eM L m) v u = eM L m u + 1 := by unfold nxE; rw [if_pos y]
          rw [e] at q ⊢
          have := (hS.2 u u0 u1).2.2.2 (eM L m u + 1) (by have := eb u u0 u1; omega) q
          omega
        · have e : nxE S (eM L m) v u = eM L m u := by unfold nxE; rw [if_neg y]
          rw [e] at q ⊢
          have := nm u u0 u1 q
          have n : ¬ S u 1 (eM L m u + 1) 0 = v := fun k => y ⟨q, k⟩
          omega
    · have := h5 u j u0 u1 j0 (by first | decide | omega)
      show (0 ≤ (if j = m then nxE S (eM L m) v u else L u j) ∧ (if j = m then nxE S (eM L m) v u else L u j) < S u 0 0 0) ∧ S u 1 (if j = m then nxE S (eM L m) v u else L u j) 0 ≤ (if j = m then v else T j) ∧ ((if j = m then nxE S (eM L m) v u else L u j) + 1 < S u 0 0 0 → (if j = m then v else T j) < S u 1 ((if j = m then nxE S (eM L m) v u else L u j) + 1) 0)
      rw [if_neg z, if_neg z]
      exact this
  · rw [en]
    have := s4E_s (u := w) (e := eM L m) (e' := nxE S (eM L m) v) hV w0 w1 (fun u u0 u1 => (ne0 u u0 u1).2.2) (by unfold nxE; rw [if_pos ⟨w2, w3⟩]; exact Int.le_refl _)
    omega
theorem M6_end {m : Int} {T : Int → Int} {L : Int → Int → Int} {F : zF} {B : zB} (hS : SG V S) (m0 : 0 ≤ m) (m8 : m ≤ 800) (h : M6 t V m S T L B) (h0 : F 9 t 0 = m) (he : ∀ u, 0 ≤ u → u < V → ¬ eM L m u + 1 < S u 0 0 0) : MXc V t S T L F B := by
  obtain ⟨h1, h2, h3, h4, h5, h6⟩ := h
  unfold MXc
  rw [h0]
  refine ⟨h1, h2, ⟨⟨m0, m8⟩, h3, RS_c h4 (fun x => ⟨?_, ?_⟩)⟩, h5⟩
  · rintro ⟨u, i, u0, u1, i0, i1, e⟩
    have := (eM_b (u := u) hS h5 m0 u0 u1).2
    exact ⟨u, i, u0, u1, i0, (by first | decide | omega), e⟩
  · rintro ⟨u, i, u0, u1, i0, i1, e⟩
    have := he u u0 u1
    exact ⟨u, i, u0, u1, i0, (by first | decide | omega), e⟩
theorem C_fm29x {F0 : zF} {B0 : zB} (hK : 60000 ≤ K.1) (hS : SG V S) (h : SCl K V p S F0 B0) (ht : 0 ≤ t ∧ t < K.2 9) : ∀ (d N : Nat) (m : Int) (F : zF) (B : zB) (T : Int → Int) (L : Int → Int → Int), m + d = 800 → 0 ≤ m → d < N → stF t F0 F → stB t B0 B → F 9 t 0 = m → M6 t V m S T L B → (m = 0 → ∀ u, 0 ≤ u → u < V → B 9 t (280 + u.toNat) 0 = -1) → ∃ F' B' T' L', f_Study_findMoments_29 K N m t p F B = some (0, F', B') ∧ stF t F0 F' ∧ stB t B0 B' ∧ MXc V t S T' L' F' B' := by
  have hV := hS.1
  intro d
  induction d with
  | zero =>
    intro N m F B T L md m0 hN f b h0 hM hz
    obtain ⟨n, rfl⟩ : ∃ n, N = n + 1 := ⟨N - 1, (by first | decide | omega)⟩
    rw [f_Study_findMoments_29, if_pos ht, if_pos (show r32 m by unfold r32; omega), if_pos (show 800 ≤ m by omega)]
    exact ⟨F, B, T, L, rfl, f, b, M6_end hS m0 (by first | decide | omega) hM h0 (s4E_e hS (fun u u0 u1 => (eM_b hS hM.2.2.2.2.1 m0 u0 u1).2) (by have := hM.2.2.2.2.2; omega))⟩
  | succ d ih =>
    intro N m F B T L md m0 hN f b h0 hM hz
    obtain ⟨n, rfl⟩ : ∃ n, N = n + 1 := ⟨N - 1, (by first | decide | omega)⟩
    have hq := SCl_f h f b
    have zm : 0 ≤ zmax (m - 1) 0 ∧ zmax (m - 1) 0 < 800 := by unfold zmax; split <;> omega
    have he : ∀ u, 0 ≤ u → u < V → B 9 t (280 + u.toNat) (zmax (m - 1) 0) = eM L m u ∧ -1 ≤ eM L m u ∧ eM L m u < S u 0 0 0 := fun u u0 u1 => by
      refine ⟨?_, eM_b hS hM.2.2.2.2.1 m0 u0 u1⟩
      unfold eM zmax
      by_cases z : m = 0
      · rw [if_pos z, if_pos (show m - 1 < 0 by omega)]; exact hz z u u0 u1
      · rw [if_neg z, if_neg (show ¬ m - 1 < 0 by omega)]; exact hM.2.1 u (m - 1) u0 u1 (by first | decide | omega) (by first | decide | omega)
    obtain ⟨r, e, np⟩ := C_npx hS hq ht zm he V.toNat K.1 0 (-1) (by first | decide | omega) (by decide) (by first | decide | omega) (Or.inl ⟨rfl, fun u' a b => (by first | decide | omega)⟩)
    have e' : f_Study_nextPlace K t p (zmax (m - 1) 0) F B = some (r, F, B) := e
    have rb : r64 r := by
      unfold r64
      rcases np with ⟨a1, _⟩ | ⟨a0, a1, _⟩
      · omega
      · omega
    rw [f_Study_findMoments_29, if_pos ht, if_pos (show r32 m by unfold r32; omega), if_neg (show ¬ 800 ≤ m by omega), if_pos (show r32 (m - 1) by unfold r32; omega), e', zb_s, if_pos rb]
    by_cases c : 0 ≤ zcmp r 0
    · have rp : 0 ≤ r := zcmp_o.mp c
      have r1 : r ≤ 1000000000000 := by
        rcases np with ⟨a1, _⟩ | ⟨a0, a1, _⟩
        · omega
        · exact a1
      rw [if_pos c, if_pos (show 0 ≤ m ∧ m < 800 by omega)]
      have hB1 : stB t B (zup4 B 9 t 1 m r) := stB_w
      obtain ⟨B1, x1, x2, x3, x4⟩ := C_fm68x (p := p) (v := r) (j := m) (e := eM L m) (F := F) (rec := f_Study_findMoments_29 K n) hS ht (show 0 ≤ m ∧ m < 800 by omega) ⟨rp, r1⟩ V.toNat K.1 0 (zup4 B 9 t 1 m r) (by first | decide | omega) (by decide) (by first | decide | omega) (SCl_f hq stF_r hB1) (fun u' a b => by rw [zup4_v, if_neg (by first | decide | omega)]; exact he u' a b)
      rw [x1]
      refine ih n (m + 1) _ B1 _ _ (by first | decide | omega) (by first | decide | omega) (by first | decide | omega) (stF_t f (stF_w (by first | decide | omega))) (stB_t b (stB_t hB1 (fun c y k x nn => x2 c y k x (by first | decide | omega)))) (by rw [zup3_v, if_pos ⟨rfl, rfl, rfl⟩]) (M6_s hS m0 hM rp np (fun j j0 j1 => by rw [x2 9 t 1 j (by first | decide | omega), zup4_v, if_neg (by first | decide | omega)]) (by rw [x2 9 t 1 m (by first | decide | omega), zup4_v, if_pos ⟨rfl, rfl, rfl, rfl⟩]) (fun u j u0 u1 j0 j1 => by rw [x2 9 t _ j (by first | decide | omega), zup4_v, if_neg (by first | decide | omega)]) (fun u u0 u1 => x4 u u0 u1)) (fun z => (by first | decide | omega))
    · rw [if_neg c]
      refine ⟨F, B, T, L, rfl, f, b, M6_end hS m0 (by first | decide | omega) hM h0 ?_⟩
      rcases np with ⟨_, a2⟩ | ⟨a0, _⟩
      · exact a2
      · exact absurd (zcmp_o.mpr a0) c
theorem C_fm7x {F : zF} (ht : 0 ≤ t ∧ t < K.2 9) : ∀ (d N : Nat) (i : Int) (B : zB), i + d = 4 → 0 ≤ i → d < N → (∀ u, 0 ≤ u → u < i → B 9 t (280 + u.toNat) 0 = -1) → ∃ B', f_Study_findMoments_7 K N i t p F B = f_Study_findMoments_29 K K.1 0 t p F B' ∧ stB t B B' ∧ ∀ u : Int, 0 ≤ u → u < 4 → B' 9 t (280 + u.toNat) 0 = -1 := by
  intro d
  induction d with
  | zero =>
    intro N i B hi i0 hN hz
    obtain ⟨n, rfl⟩ : ∃ n, N = n + 1 := ⟨N - 1, (by first | decide | omega)⟩
    rw [f_Study_findMoments_7, if_pos (by unfold r32; omega), if_pos (by first | decide | omega)]
    exact ⟨B, rfl, stB_r, fun u u0 u1 => hz u u0 (by first | decide | omega)⟩
  | succ d ih =>
    intro N i B hi i0 hN hz
    obtain ⟨n, rfl⟩ : ∃ n, N = n + 1 := ⟨N - 1, (by first | decide | omega)⟩
    rw [f_Study_findMoments_7, if_pos (by unfold r32; omega), if_neg (by first | decide | omega), if_pos ht, if_pos (by first | decide | omega)]
    obtain ⟨B', g1, g2, g3⟩ := ih n (i + 1) (zup4 B 9 t (280 + i.toNat) 0 (-1)) (by first | decide | omega) (by first | decide | omega) (by first | decide | omega) (fun u u0 u1 => by
      rw [zup4_v]
      by_cases z : u = i
      · rw [z, if_pos ⟨rfl, rfl, rfl, rfl⟩]
      · rw [if_neg (by first | decide | omega)]; exact hz u u0 (by first | decide | omega))
    exact ⟨B', g1, stB_t stB_w g2, g3⟩
theorem C_fmox {F : zF} {B : zB} (hK : 60000 ≤ K.1) (hS : SG V S) (h : SCl K V p S F B) (ht : 0 ≤ t ∧ t < K.2 9) : ∃ F' B' T L, f_Study_findMoments K t p F B = some (0, F', B') ∧ stF t F F' ∧ stB t B B' ∧ MXc V t S T L F' B' := by
  have hV := hS.1
  obtain ⟨B1, e, g1, g2⟩ := C_fm7x (K := K) (p := p) (F := zup3 F 9 t 0 0) ht 4 K.1 0 B (by first | decide | omega) (by decide) (by first | decide | omega) (fun u u0 u1 => (by first | decide | omega))
  obtain ⟨F2, B2, T, L, e2, k1, k2, k3⟩ := C_fm29x (F0 := zup3 F 9 t 0 0) (B0 := B1) hK hS (SCl_f h (stF_w (by first | decide | omega)) g1) ht 800 K.1 0 (zup3 F 9 t 0 0) B1 (fun _ => 0) (fun _ _ => 0) (by first | decide | omega) (by decide) (by first | decide | omega) stF_r stB_r (by rw [zup3_v, if_pos ⟨rfl, rfl, rfl⟩]) ⟨fun j j0 j1 => (by first | decide | omega), fun u j _ _ j0 j1 => (by first | decide | omega), fun j j0 j1 => (by first | decide | omega), fun x => ⟨fun ⟨j, j0, j1, _⟩ => (by first | decide | omega), fun ⟨u, i, u0, u1, i0, i1, _⟩ => by unfold eM at i1; rw [if_pos rfl] at i1; omega⟩, fun u j u0 u1 j0 j1 => (by first | decide | omega), by rw [eM_0, s4E_0]; exact Int.le_refl _⟩ (fun _ u u0 u1 => g2 u u0 (by first | decide | omega))
  unfold f_Study_findMoments
  rw [if_pos ht, e, e2]
  exact ⟨F2, B2, T, L, rfl, stF_t (stF_w (by first | decide | omega)) k1, stB_t g1 k2, k3⟩
end
end
section
section
/-! ===== study: faults, and the whole look ===== -/
def FSt (t : Int) (F0 : zF) (B0 : zB) (F : zF) (B : zB) : Prop := stF t F0 F ∧ stB t B0 B ∧ SBb t B ∧ (0 ≤ F 9 t 2 ∧ F 9 t 2 ≤ 300) ∧ F 9 t 0 = F0 9 t 0
def FQt (t : Int) (F0 : zF) (B0 : zB) (x : zO) : Prop := ∃ F' B', x = some (0, F', B') ∧ FSt t F0 B0 F' B'
section
variable {K : zK} {V p t : Int} {F0 : zF} {B0 : zB}
theorem C_addF {a b c d : Int} {F : zF} {B : zB} (ht : 0 ≤ t ∧ t < K.2 9) (h : FSt t F0 B0 F B) : FQt t F0 B0 (f_Study_addFault K t a b c d F B) := by
  have h' := h
  obtain ⟨f, b', hS, h2, h0⟩ := h
  unfold f_Study_addFault
  rw [if_pos ht, if_pos (by unfold r32; omega)]
  by_cases z : F 9 t 2 < 300
  · rw [if_pos z, if_pos (by first | decide | omega)]
    refine ⟨_, _, rfl, stF_t f (stF_w (by first | decide | omega)), stB_t b' (stB_t stB_w (stB_t stB_w (stB_t stB_w stB_w))), ?_, by rw [zup3_v, if_pos ⟨rfl, rfl, rfl⟩]; omega, by rw [zup3_v, if_neg (by first | decide | omega)]; exact h0⟩
    exact SB_w (SB_w (SB_w (SB_w hS (by first | decide | omega) (by first | decide | omega) (by first | decide | omega) (by first | decide | omega) (by first | decide | omega)) (by first | decide | omega) (by first | decide | omega) (by first | decide | omega) (by first | decide | omega) (by first | decide | omega)) (by first | decide | omega) (by first | decide | omega) (by first | decide | omega) (by first | decide | omega) (by first | decide | omega)) (by first | decide | omega) (by first | decide | omega) (by first | decide | omega) (by first | decide | omega) (by first | decide | omega)
  · rw [if_neg z]; exact ⟨F, B, rfl, h'⟩
theorem C_ff22 {u k j : Int} {rec2 : Int → Int → Int → Int → zF → zB → zO} {rec10 : Int → Int → Int → Int → Int → zF → zB → zO} (ht : 0 ≤ t ∧ t < K.2 9) (V4 : 1 ≤ V ∧ V ≤ 4) (hu : 0 ≤ u ∧ u < V) (hk : r32 k) (go : ∀ F B, FSt t F0 B0 F B → FQt t F0 B0 (rec10 (u + 1) k t V j F B)) : ∀ (d N : Nat) (v : Int) (F : zF) (B : zB), V ≤ v + d → 0 ≤ v → v ≤ 4 → d < N → FSt t F0 B0 F B → FQt t F0 B0 (f_Study_findFaults_22 rec2 rec10 K N v u k t V j F B) := by
  intro d
  induction d with
  | zero =>
    intro N v F B hv v0 v1 hN h
    obtain ⟨n, rfl⟩ : ∃ n, N = n + 1 := ⟨N - 1, (by first | decide | omega)⟩
    rw [f_Study_findFaults_22, if_pos (by unfold r32; omega), if_pos (by unfold r32; omega), if_pos (by first | decide | omega)]
    exact go F B h
  | succ d ih =>
    intro N v F B hv v0 v1 hN h
    obtain ⟨n, rfl⟩ : ∃ n, N = n + 1 := ⟨N - 1, (by first | decide | omega)⟩
    rw [f_Study_findFaults_22, if_pos (by unfold r32; omega), if_pos (by unfold r32; omega)]
    by_cases c : V ≤ v
    · rw [if_pos c]; exact go F B h
    obtain ⟨r, F', B', e, rfl, rfl, r01⟩ := s_two (K := K) (t := t) (k := k) (u := u) (v := v) (F := F) (B := B) ht (by first | decide | omega) (by first | decide | omega) hk h.2.2.1.2.2
    rw [if_neg c, if_pos ht, e, zb_s, if_pos (by unfold r32; omega)]
    by_cases c1 : r = 0
    · rw [if_pos c1]
      exact ih n (v + 1) F' B' (by first | decide | omega) (by first | decide | omega) (by first | decide | omega) (by first | decide | omega) h
    · rw [if_neg c1]
      obtain ⟨F1, B1, e1, h1⟩ := C_addF (a := j) (b := k) (c := u) (d := v) ht h
      rw [e1, zb_s]
      exact ih n (v + 1) F1 B1 (by first | decide | omega) (by first | decide | omega) (by first | decide | omega) (by first | decide | omega) h1
theorem C_ff10 {k j : Int} {rec2 : Int → Int → Int → Int → zF → zB → zO} (hK : 60000 ≤ K.1) (ht : 0 ≤ t ∧ t < K.2 9) (V4 : 1 ≤ V ∧ V ≤ 4) (hk : r32 k) (go : ∀ F B, FSt t F0 B0 F B → FQt t F0 B0 (rec2 (k + 1) t V j F B)) : ∀ (d N : Nat) (u : Int) (F : zF) (B : zB), V ≤ u + d → 0 ≤ u → u ≤ 4 → d < N → FSt t F0 B0 F B → FQt t F0 B0 (f_Study_findFaults_10 rec2 K N u k t V j F B) := by
  intro d
  induction d with
  | zero =>
    intro N u F B hu u0 u1 hN h
    obtain ⟨n, rfl⟩ : ∃ n, N = n + 1 := ⟨N - 1, (by first | decide | omega)⟩
    rw [f_Study_findFaults_10, if_pos (by unfold r32; omega), if_pos (by unfold r32; omega), if_pos (by first | decide | omega)]
    exact go F B h
  | succ d ih =>
    intro N u F B hu u0 u1 hN h
    obtain ⟨n, rfl⟩ : ∃ n, N = n + 1 := ⟨N - 1, (by first | decide | omega)⟩
    rw [f_Study_findFaults_10, if_pos (by unfold r32; omega), if_pos (by unfold r32; omega)]
    by_cases c : V ≤ u
    · rw [if_pos c]; exact go F B h
    rw [if_neg c]
    exact C_ff22 ht V4 (by first | decide | omega) hk (fun F B h => ih n (u + 1) F B (by first | decide | omega) (by first | decide | omega) (by first | decide | omega) (by first | decide | omega) h) 4 K.1 (u + 1) F B (by first | decide | omega) (by first | decide | omega) (by first | decide | omega) (by first | decide | omega) h
theorem C_ff79 {k j : Int} {rec : Int → Int → Int → Int → zF → zB → zO} (ht : 0 ≤ t ∧ t < K.2 9) (V4 : 1 ≤ V ∧ V ≤ 4) (hk : r32 k) (go : ∀ F B, FSt t F0 B0 F B → FQt t F0 B0 (rec (k + 1) t V j F B)) : ∀ (d N : Nat) (u : Int) (F : zF) (B : zB), V ≤ u + d → 0 ≤ u → u ≤ 4 → d < N → FSt t F0 B0 F B → FQt t F0 B0 (f_Study_findFaults_79 rec K N u k t V j F B) := by
  intro d
  induction d with
  | zero =>
    intro N u F B hu u0 u1 hN h
    obtain ⟨n, rfl⟩ : ∃ n, N = n + 1 := ⟨N - 1, (by first | decide | omega)⟩
    rw [f_Study_findFaults_79, if_pos (by unfold r32; omega), if_pos (by unfold r32; omega), if_pos (by first | decide | omega)]
    exact go F B h
  | succ d ih =>
    intro N u F B hu u0 u1 hN h
    obtain ⟨n, rfl⟩ : ∃ n, N = n + 1 := ⟨N - 1, (by first | decide | omega)⟩
    rw [f_Study_findFaults_79, if_pos (by unfold r32; omega), if_pos (by unfold r32; omega)]
    by_cases c : V ≤ u
    · rw [if_pos c]; exact go F B h
    obtain ⟨r, F', B', e, rfl, rfl, r01⟩ := s_one (K := K) (t := t) (k := k) (u := u) (F := F) (B := B) ht (by first | decide | omega) hk h.2.2.1.2.2
    rw [if_neg c, if_pos ht, e, zb_s, if_pos (by unfold r32; omega)]
    by_cases c1 : r = 0
    · rw [if_pos c1]
      exact ih n (u + 1) F' B' (by first | decide | omega) (by first | decide | omega) (by first | decide | omega) (by first | decide | omega) h
    · rw [if_neg c1]
      obtain ⟨F1, B1, e1, h1⟩ := C_addF (a := j) (b := k) (c := u) (d := -1) ht h
      rw [e1, zb_s]
      exact ih n (u + 1) F1 B1 (by first | decide | omega) (by first | decide | omega) (by first | decide | omega) (by first | decide | omega) h1
theorem C_ff70 {j : Int} (hK : 60000 ≤ K.1) (ht : 0 ≤ t ∧ t < K.2 9) (V4 : 1 ≤ V ∧ V ≤ 4) : ∀ (d N : Nat) (k : Int) (F : zF) (B : zB), 7 ≤ k + d → 0 ≤ k → k ≤ 7 → d < N → FSt t F0 B0 F B → FQt t F0 B0 (f_Study_findFaults_70 K N k t V j F B) := by
  intro d
  induction d with
  | zero =>
    intro N k F B hk k0 k1 hN h
    obtain ⟨n, rfl⟩ : ∃ n, N = n + 1 := ⟨N - 1, (by first | decide | omega)⟩
    rw [f_Study_findFaults_70, if_pos (by unfold r32; omega), if_pos (by first | decide | omega)]
    exact ⟨F, B, rfl, h⟩
  | succ d ih =>
    intro N k F B hk k0 k1 hN h
    obtain ⟨n, rfl⟩ : ∃ n, N = n + 1 := ⟨N - 1, (by first | decide | omega)⟩
    rw [f_Study_findFaults_70, if_pos (by unfold r32; omega)]
    by_cases c : 6 < k
    · rw [if_pos c]; exact ⟨F, B, rfl, h⟩
    · rw [if_neg c]
      exact C_ff79 ht V4 (by unfold r32; omega) (fun F B h => ih n (k + 1) F B (by first | decide | omega) (by first | decide | omega) (by first | decide | omega) (by first | decide | omega) h) 4 K.1 0 F B (by first | decide | omega) (by decide) (by first | decide | omega) (by first | decide | omega) h
theorem C_ff2 {j : Int} (hK : 60000 ≤ K.1) (ht : 0 ≤ t ∧ t < K.2 9) (V4 : 1 ≤ V ∧ V ≤ 4) : ∀ (d N : Nat) (k : Int) (F : zF) (B : zB), 5 ≤ k + d → 0 ≤ k → k ≤ 5 → d < N → FSt t F0 B0 F B → FQt t F0 B0 (f_Study_findFaults_2 K N k t V j F B) := by
  intro d
  induction d with
  | zero =>
    intro N k F B hk k0 k1 hN h
    obtain ⟨n, rfl⟩ : ∃ n, N = n + 1 := ⟨N - 1, (by first | decide | omega)⟩
    rw [f_Study_findFaults_2, if_pos (by unfold r32; omega), if_pos (by first | decide | omega)]
    exact C_ff70 hK ht V4 7 K.1 5 F B (by first | decide | omega) (by decide) (by first | decide | omega) (by first | decide | omega) h
  | succ d ih =>
    intro N k F B hk k0 k1 hN h
    obtain ⟨n, rfl⟩ : ∃ n, N = n + 1 := ⟨N - 1, (by first | decide | omega)⟩
    rw [f_Study_findFaults_2, if_pos (by unfold r32; omega)]
    by_cases c : 4 < k
    · rw [if_pos c]
      exact C_ff70 hK ht V4 7 K.1 5 F B (by first | decide | omega) (by decide) (by first | decide | omega) (by first | decide | omega) h
    · rw [if_neg c]
      exact C_ff10 hK ht V4 (by unfold r32; omega) (fun F B h => ih n (k + 1) F B (by first | decide | omega) (by first | decide | omega) (by first | decide | omega) (by first | decide | omega) h) 4 K.1 0 F B (by first | decide | omega) (by decide) (by first | decide | omega) (by first | decide | omega) h
theorem C_lt12 (hK : 60000 ≤ K.1) (hq : PQs K V p F0 B0) (ht : 0 ≤ t ∧ t < K.2 9) (h0 : 0 ≤ F0 9 t 0 ∧ F0 9 t 0 ≤ 800) : ∀ (d N : Nat) (j : Int) (F : zF) (B : zB), F0 9 t 0 ≤ j + d → 0 ≤ j → j ≤ 800 → d < N → FSt t F0 B0 F B → FQt t F0 B0 (f_Study_lookThrough_12 K N j t p F B) := by
  have V4 := hq.2.1
  intro d
  induction d with
  | zero =>
    intro N j F B hj j0 j1 hN h
    obtain ⟨n, rfl⟩ : ∃ n, N = n + 1 := ⟨N - 1, (by first | decide | omega)⟩
    have e0 := h.2.2.2.2
    rw [f_Study_lookThrough_12, if_pos ht, if_pos (by unfold r32; omega), if_pos (by unfold r32; omega), if_pos (by first | decide | omega)]
    exact ⟨F, B, rfl, h⟩
  | succ d ih =>
    intro N j F B hj j0 j1 hN h
    obtain ⟨n, rfl⟩ : ∃ n, N = n + 1 := ⟨N - 1, (by first | decide | omega)⟩
    obtain ⟨f, b, hS, h2, e0⟩ := h
    rw [f_Study_lookThrough_12, if_pos ht, if_pos (by unfold r32; omega), if_pos (by unfold r32; omega)]
    by_cases c : F 9 t 0 ≤ j
    · rw [if_pos c]; exact ⟨F, B, rfl, f, b, hS, h2, e0⟩
    rw [if_neg c, if_pos (by unfold r32; omega)]
    by_cases c1 : 300 ≤ F 9 t 2
    · rw [if_pos c1]; exact ⟨F, B, rfl, f, b, hS, h2, e0⟩
    obtain ⟨B1, e1, g1, g2⟩ := C_tl2 (j := j) (F := F) hK ht (by first | decide | omega) V.toNat K.1 0 B (by first | decide | omega) (by decide) (by first | decide | omega) (PKs_f hq f b) hS
    have e1' : f_Study_takeLines K t p j F B = some (0, F, B1) := e1
    have h1 : FSt t F0 B0 F B1 := ⟨f, stB_t b g1, g2, h2, e0⟩
    have e6 : F 6 p 1 = V := by rw [f 6 p 1 (by first | decide | omega)]; exact V4.1
    rw [if_neg c1, e1', zb_s]
    unfold f_Study_lookThrough_49
    by_cases c2 : j ≤ 0
    · rw [if_pos c2]
      exact ih n (j + 1) F B1 (by first | decide | omega) (by first | decide | omega) (by first | decide | omega) (by first | decide | omega) h1
    · obtain ⟨F2, B2, e2, h2'⟩ := C_ff2 (j := j) hK ht V4.2 5 K.1 1 F B1 (by first | decide | omega) (by decide) (by first | decide | omega) (by first | decide | omega) h1
      have e2' : f_Study_findFaults K t V j F B1 = some (0, F2, B2) := e2
      rw [if_neg c2, if_pos hq.1, e6, e2', zb_s]
      exact ih n (j + 1) F2 B2 (by first | decide | omega) (by first | decide | omega) (by first | decide | omega) (by first | decide | omega) h2'
theorem C_look {F : zF} {B : zB} (hK : 60000 ≤ K.1) (hq : PQs K V p F B) (ht : 0 ≤ t ∧ t < K.2 9) (hS : SBb t B) : ∃ F' B', f_Study_lookThrough K t p F B = some (0, F', B') ∧ stF t F F' ∧ stB t B B' ∧ STu t F' B' := by
  obtain ⟨F1, B1, e1, f1, b1, s1, n0⟩ := C_fmo hK hq ht hS
  have f2 : stF t F1 (zup3 F1 9 t 2 0) := stF_w (by first | decide | omega)
  obtain ⟨F2, B2, e2, g1, g2, g3, g4, g5⟩ := C_lt12 (F0 := zup3 F1 9 t 2 0) (B0 := B1) hK (PKs_f (PKs_f hq f1 b1) f2 stB_r) ht (by rw [zup3_v, if_neg (by first | decide | omega)]; exact n0) 800 K.1 0 (zup3 F1 9 t 2 0) B1 (by rw [zup3_v, if_neg (by first | decide | omega)]; omega) (by decide) (by first | decide | omega) (by first | decide | omega) ⟨stF_r, stB_r, s1, by rw [zup3_v, if_pos ⟨rfl, rfl, rfl⟩]; omega, rfl⟩
  unfold f_Study_lookThrough
  rw [if_pos ht, e1, zb_s, e2]
  rw [zup3_v, if_neg (by first | decide | omega)] at g5
  exact ⟨F2, B2, rfl, stF_t f1 (stF_t f2 g1), stB_t b1 g2, (by first | decide | omega), g4, g3⟩
end
end
end
section
section
/-! ===== study: lines and faults, class, exactly ===== -/
theorem fm12w : ∀ x : Fin 300, fmB ((x.val : Int) - 140) 12 = true := by decide +kernel
theorem fm7w : ∀ x : Fin 140, fmB ((x.val : Int) - 70) 7 = true := by decide +kernel
theorem C_m12w {K : zK} {a : Int} {F : zF} {B : zB} (h : -140 ≤ a ∧ a < 160) : f_Math_floorMod K a 12 F B = some (a % 12, F, B) := by
  have := fm12w ⟨(a + 140).toNat, (by first | decide | omega)⟩
  rw [show (((⟨(a + 140).toNat, (by first | decide | omega)⟩ : Fin 300).val : Nat) : Int) - 140 = a by show (((a + 140).toNat : Nat) : Int) - 140 = a; omega] at this
  exact C_fmB (by decide) (by decide) this
theorem C_m7w {K : zK} {a : Int} {F : zF} {B : zB} (h : -70 ≤ a ∧ a < 70) : f_Math_floorMod K a 7 F B = some (a % 7, F, B) := by
  have := fm7w ⟨(a + 70).toNat, (by first | decide | omega)⟩
  rw [show (((⟨(a + 70).toNat, (by first | decide | omega)⟩ : Fin 140).val : Nat) : Int) - 70 = a by show (((a + 70).toNat : Nat) : Int) - 70 = a; omega] at this
  exact C_fmB (by decide) (by decide) this
theorem z9_t : ∀ k : Fin 7, ∀ q : Fin 12, ((q.val : Int) < ztv 9 (k.val : Int) ∨ ztv 10 (k.val : Int) < (q.val : Int)) ↔ plV (k.val : Int) (q.val : Int) = 0 := by decide +kernel
theorem z9_u {s q : Int} (s0 : 0 ≤ s ∧ s < 7) (q0 : 0 ≤ q ∧ q < 12) : (q < ztv 9 s ∨ ztv 10 s < q) ↔ plV s q = 0 := by
  have k := z9_t ⟨s.toNat, (by first | decide | omega)⟩ ⟨q.toNat, (by first | decide | omega)⟩
  rw [show (((⟨s.toNat, (by first | decide | omega)⟩ : Fin 7).val : Nat) : Int) = s by show ((s.toNat : Nat) : Int) = s; omega, show (((⟨q.toNat, (by first | decide | omega)⟩ : Fin 12).val : Nat) : Int) = q by show ((q.toNat : Nat) : Int) = q; omega] at k
  exact k
section
variable {K : zK} {F : zF} {B : zB}
theorem C_consx {a b c d : Int} (ha : 0 ≤ a ∧ a ≤ 62) (hb : 0 ≤ b ∧ b ≤ 127) (hc : 0 ≤ c ∧ c ≤ 62) (hd : 0 ≤ d ∧ d ≤ 127) : f_Study_consonance K a b c d F B = some (pcV a b c d, F, B) := by
  have d1 : r32 (1 : Int) := by decide
  have d0 : r32 (0 : Int) := by decide
  have key : ∀ x y : Int, (-62 ≤ x ∧ x ≤ 62) → y = zabs (b - d) → f_Study_consonance_26 K b d x F B = some (if x % 7 = 0 ∧ y % 12 = 0 then 1 else if x % 7 = 4 ∧ y % 12 = 7 then 2 else 0, F, B) := fun x y hx hy => by
    have yb : 0 ≤ y ∧ y ≤ 127 := by rw [hy]; unfold zabs; split <;> omega
    have ez : zrm y 12 = y % 12 := zrm_e yb.1 (by unfold r32; omega) (by decide) (by decide)
    have m7 : 0 ≤ x % 7 ∧ x % 7 < 7 := by omega
    have m12 : 0 ≤ y % 12 ∧ y % 12 < 12 := by omega
    unfold f_Study_consonance_26 f_Study_consonance_56 f_Study_consonance_73 f_Study_consonance_74
    rw [C_m7w (by first | decide | omega), zb_s, if_pos (show r32 (b - d) by unfold r32; omega), ← hy, ez]
    generalize x % 7 = p at m7 ⊢
    generalize y % 12 = q at m12 ⊢
    have rp : r32 p := by unfold r32; omega
    have rq : r32 q := by unfold r32; omega
    by_cases c1 : p = 0
    · by_cases c2 : q = 0
      · rw [if_pos rp, if_pos c1, if_pos rq, if_pos c2, if_pos ⟨c1, c2⟩]
      · rw [if_pos rp, if_pos c1, if_pos rq, if_neg c2, if_pos rp, if_neg (show ¬ p = 4 by omega), if_neg (show ¬ (p = 0 ∧ q = 0) from fun z => c2 z.2), if_neg (show ¬ (p = 4 ∧ q = 7) by omega)]
    · rw [if_pos rp, if_neg c1, if_pos rp, if_neg (show ¬ (p = 0 ∧ q = 0) from fun z => c1 z.1)]
      by_cases c3 : p = 4
      · by_cases c4 : q = 7
        · rw [if_pos c3, if_pos rq, if_pos c4, if_pos ⟨c3, c4⟩]
        · rw [if_pos c3, if_pos rq, if_neg c4, if_neg (show ¬ (p = 4 ∧ q = 7) from fun z => c4 z.2)]
      · rw [if_neg c3, if_neg (show ¬ (p = 4 ∧ q = 7) from fun z => c3 z.1)]
  unfold f_Study_consonance f_Study_consonance_10 pcV
  rw [if_pos (show r32 d by unfold r32; omega), if_pos (show r32 b by unfold r32; omega)]
  by_cases c1 : b < d
  · rw [if_neg (show ¬ d ≤ b by omega), if_pos d1, if_neg (show ¬ (1 : Int) = 0 by decide), if_pos c1, if_pos c1]
    exact key (c - a) (d - b) (by first | decide | omega) (by unfold zabs; rw [if_neg (by first | decide | omega)]; omega)
  · rw [if_pos (show d ≤ b by omega), if_pos d0, if_pos (show (0 : Int) = 0 from rfl), if_neg c1, if_neg c1]
    exact key (a - c) (b - d) (by first | decide | omega) (by unfold zabs; rw [if_pos (by first | decide | omega)])
/-- a line's tone and step, or none -/
def lnB (t s : Int) : Prop := (t = -1 ∧ s = -1) ∨ ((0 ≤ t ∧ t ≤ 127) ∧ 0 ≤ s ∧ s ≤ 62)
theorem lnB_r {t s : Int} (h : lnB t s) : (-1 ≤ t ∧ t ≤ 127) ∧ (-1 ≤ s ∧ s ≤ 62) ∧ (0 ≤ t → 0 ≤ s) := by unfold lnB at h; omega
theorem C_onex {t k u su tu su' tu' bu : Int} (ht : 0 ≤ t ∧ t < K.2 9) (hu : 0 ≤ u ∧ u < 4) (hk : k = 5 ∨ k = 6) (e5 : B 9 t 5 u = su) (e6 : B 9 t 6 u = tu) (e7 : B 9 t 7 u = su') (e8 : B 9 t 8 u = tu') (e9 : B 9 t 9 u = bu) (l : lnB tu su) (l' : lnB tu' su') (hb : bu = 0 ∨ bu = 1) : f_Study_isFaultOfOne K t k u F B = some (q1V k su tu su' tu' bu, F, B) := by
  have r := lnB_r l
  have r' := lnB_r l'
  have no : ¬ (0 ≤ tu ∧ 0 ≤ tu' ∧ bu = 1) → q1V k su tu su' tu' bu = 0 := fun z => by unfold q1V; rw [if_neg z]
  unfold f_Study_isFaultOfOne f_Study_isFaultOfOne_29
  rw [if_pos ht, if_pos hu, e5, e6, e7, e8, e9, if_pos (show r32 bu by unfold r32; omega)]
  by_cases c1 : bu = 0
  · rw [if_pos c1, no (by first | decide | omega)]
  rw [if_neg c1, if_pos (show r32 tu by unfold r32; omega)]
  by_cases c2 : tu = -1
  · rw [if_pos c2, no (by first | decide | omega)]
  rw [if_neg c2, if_pos (show r32 tu' by unfold r32; omega)]
  by_cases c3 : tu' = -1
  · rw [if_pos c3, no (by first | decide | omega)]
  rw [if_neg c3, if_pos (show r32 (su - su') by unfold r32; omega), if_pos (show r32 k by unfold r32; omega)]
  have yes : 0 ≤ tu ∧ 0 ≤ tu' ∧ bu = 1 := by omega
  have ea : zabs (su - su') = if su < su' then su' - su else su - su' := by
    unfold zabs
    by_cases z : su < su'
    · rw [if_pos z, if_neg (by first | decide | omega)]; omega
    · rw [if_neg z, if_pos (by first | decide | omega)]
  have gb : 0 ≤ (if su < su' then su' - su else su - su') ∧ (if su < su' then su' - su else su - su') ≤ 62 := by split <;> omega
  unfold q1V
  rw [if_pos yes, ea]
  generalize hg : (if su < su' then su' - su else su - su') = g at gb ⊢
  by_cases c4 : k = 5
  · unfold f_Study_isFaultOfOne_64
    rw [if_pos c4, if_pos (show r32 g by unfold r32; omega), if_pos c4]
    by_cases c5 : g ≤ 7
    · rw [if_pos c5, if_pos (Or.inl rfl), if_neg (show ¬ 7 < g by omega)]
    · rw [if_neg c5, if_pos (Or.inr rfl), if_pos (show 7 < g by omega)]
  rw [if_neg c4, if_pos (show r32 su by unfold r32; omega), if_pos (show r32 su' by unfold r32; omega), if_neg c4]
  have z7 : zrm g 7 = g % 7 := zrm_e gb.1 (by unfold r32; omega) (by decide) (by decide)
  have m7 : 0 ≤ g % 7 ∧ g % 7 < 7 := by omega
  have o125 : ∀ h h' : Int, h = h' → (-127 ≤ h ∧ h ≤ 127) → f_Study_isFaultOfOne_125 K g h F B = some (if plV (g % 7) (h' % 12) = 0 then 1 else 0, F, B) := fun h h' eh hh => by
    have m12 : 0 ≤ h % 12 ∧ h % 12 < 12 := by omega
    have v9 := z9_v (g % 7) m7.1 m7.2
    have v10 := z10_v (g % 7) m7.1 m7.2
    have pl := z9_u m7 m12
    rw [← eh]
    unfold f_Study_isFaultOfOne_125 f_Study_isFaultOfOne_162 f_Study_isFaultOfOne_167
    rw [C_m12w (by first | decide | omega), zb_s, z7, z9_l, z10_l, if_pos m7, if_pos (show r32 (h % 12) by unfold r32; omega), if_pos v9]
    by_cases y : h % 12 < ztv 9 (g % 7)
    · rw [if_pos y, if_pos (Or.inr rfl), if_pos (pl.mp (Or.inl y))]
    rw [if_neg y, if_pos m7, if_pos v10]
    by_cases y' : h % 12 ≤ ztv 10 (g % 7)
    · rw [if_pos y', if_pos (Or.inl rfl), if_neg (fun k => by have := pl.mpr k; omega)]
    · rw [if_neg y', if_pos (Or.inr rfl), if_pos (pl.mp (Or.inr (by first | decide | omega)))]
  unfold f_Study_isFaultOfOne_109
  by_cases c5 : su ≤ su'
  · rw [if_pos c5, if_pos (show r32 g by unfold r32; omega)]
    by_cases c6 : g = 0
    · have es : su = su' := by
        by_cases z : su < su'
        · rw [if_pos z] at hg; omega
        · omega
      rw [if_pos c6, if_pos (show r32 (tu' - tu) by unfold r32; omega)]
      refine o125 _ _ ?_ ?_
      · unfold zabs
        by_cases z : tu < tu'
        · rw [if_pos (show 0 ≤ tu' - tu by omega), if_pos (show su < su' ∨ (su = su' ∧ tu < tu') from Or.inr ⟨es, z⟩)]
        · rw [if_neg (show ¬ (su < su' ∨ (su = su' ∧ tu < tu')) by omega)]
          by_cases z' : 0 ≤ tu' - tu
          · rw [if_pos z']; omega
          · rw [if_neg z']; omega
      · unfold zabs; split <;> omega
    · have es : su < su' := by
        by_cases z : su < su'
        · exact z
        · rw [if_neg z] at hg; omega
      rw [if_neg c6]
      exact o125 _ _ (by rw [if_pos (show su < su' ∨ (su = su' ∧ tu < tu') from Or.inl es)]) (by first | decide | omega)
  · have ng : ¬ g = 0 := by rw [if_neg (show ¬ su < su' by omega)] at hg; omega
    rw [if_neg c5, if_pos (show r32 g by unfold r32; omega), if_neg ng]
    exact o125 _ _ (by rw [if_neg (show ¬ (su < su' ∨ (su = su' ∧ tu < tu')) by omega)]) (by first | decide | omega)
theorem q2V_z {k su tu sv tv su' tu' sv' tv' bu bv : Int} (z : tu < 0 ∨ tv < 0) : q2V k su tu sv tv su' tu' sv' tv' bu bv = 0 := by
  unfold q2V
  by_cases c : k = 4
  · have e : ovV tu tv = 0 := by unfold ovV; rw [if_neg (by first | decide | omega)]
    rw [if_pos c, e, if_neg (fun y => absurd y.1 (by decide))]
  · rw [if_neg c]
    unfold q3V
    rw [if_neg (by first | decide | omega)]
theorem C_twox {t k u v su tu sv tv su' tu' sv' tv' bu bv : Int} (ht : 0 ≤ t ∧ t < K.2 9) (hu : 0 ≤ u ∧ u < 4) (hv : 0 ≤ v ∧ v < 4) (hk : 1 ≤ k ∧ k ≤ 4) (e5 : B 9 t 5 u = su) (e6 : B 9 t 6 u = tu) (e7 : B 9 t 7 u = su') (e8 : B 9 t 8 u = tu') (e9 : B 9 t 9 u = bu) (f5 : B 9 t 5 v = sv) (f6 : B 9 t 6 v = tv) (f7 : B 9 t 7 v = sv') (f8 : B 9 t 8 v = tv') (f9 : B 9 t 9 v = bv) (lu : lnB tu su) (lu' : lnB tu' su') (lv : lnB tv sv) (lv' : lnB tv' sv') (hb : bu = 0 ∨ bu = 1) (hb' : bv = 0 ∨ bv = 1) : f_Study_isFaultOfTwo K t k u v F B = some (q2V k su tu sv tv su' tu' sv' tv' bu bv, F, B) := by
  have ru := lnB_r lu
  have ru' := lnB_r lu'
  have rv := lnB_r lv
  have rv' := lnB_r lv'
  have d1 : r32 (1 : Int) := by decide
  have d0 : r32 (0 : Int) := by decide
  have rtu : r32 tu := by unfold r32; omega
  have rtv : r32 tv := by unfold r32; omega
  have rtu' : r32 tu' := by unfold r32; omega
  have rtv' : r32 tv' := by unfold r32; omega
  have rk : r32 k := by unfold r32; omega
  unfold f_Study_isFaultOfTwo f_Study_isFaultOfTwo_20 f_Study_isFaultOfTwo_46
  rw [if_pos ht, if_pos hu, e6, if_pos rtu]
  by_cases c1 : tu = -1
  · rw [if_pos c1, q2V_z (Or.inl (by first | decide | omega))]
  rw [if_neg c1, if_pos hv, f6, if_pos rtv]
  by_cases c2 : tv = -1
  · rw [if_pos c2, q2V_z (Or.inr (by first | decide | omega))]
  have u0 : 0 ≤ tu := by omega
  have v0 : 0 ≤ tv := by omega
  have o47 : ∀ s : Int, ((s = 1 ∧ 0 ≤ tu' ∧ 0 ≤ tv') ∨ (s = 0 ∧ (tu' < 0 ∨ tv' < 0))) → f_Study_isFaultOfTwo_47 K t k u v s F B = some (q2V k su tu sv tv su' tu' sv' tv' bu bv, F, B) := fun s hs => by
    have rs : r32 s := by unfold r32; omega
    unfold f_Study_isFaultOfTwo_47 f_Study_isFaultOfTwo_129 q2V
    rw [if_pos rk]
    by_cases c4 : k = 4
    · unfold f_Study_isFaultOfTwo_89 f_Study_isFaultOfTwo_93 f_Study_isFaultOfTwo_94
      rw [if_pos c4, if_pos ht, if_pos hv, if_pos hu, f6, e6, if_pos rtv, if_pos rtu, if_pos c4]
      unfold ovV
      by_cases c5 : tv ≤ tu
      · rw [if_pos c5, if_pos (Or.inl rfl), if_neg (show ¬ (0 ≤ tu ∧ 0 ≤ tv ∧ tu < tv) by omega), if_neg (fun y => absurd y.1 (by decide))]
      rw [if_neg c5, if_pos rs, if_pos (show 0 ≤ tu ∧ 0 ≤ tv ∧ tu < tv by omega)]
      by_cases c6 : s = 0
      · rw [if_pos c6, if_pos (Or.inr rfl), if_neg (show ¬ (0 ≤ tu' ∧ 0 ≤ tv' ∧ tu' < tv') by omega), if_pos ⟨rfl, rfl⟩]
      rw [if_neg c6, f8, e8, if_pos rtv', if_pos rtu']
      by_cases c7 : tu' < tv'
      · rw [if_pos c7, if_pos (Or.inl rfl), if_pos (show 0 ≤ tu' ∧ 0 ≤ tv' ∧ tu' < tv' by omega), if_neg (fun y => absurd y.2 (by decide))]
      · rw [if_neg c7, if_pos (Or.inr rfl), if_neg (show ¬ (0 ≤ tu' ∧ 0 ≤ tv' ∧ tu' < tv') by omega), if_pos ⟨rfl, rfl⟩]
    rw [if_neg c4, if_neg c4]
    have no : ¬ (0 ≤ tu ∧ 0 ≤ tv ∧ 0 ≤ tu' ∧ 0 ≤ tv' ∧ bu = 1 ∧ bv = 1 ∧ ((tu' < tu ∧ tv' < tv) ∨ (tu < tu' ∧ tv < tv'))) → q3V k su tu sv tv su' tu' sv' tv' bu bv = 0 := fun z => by unfold q3V; rw [if_neg z]
    -- both lines go the same way
    have o204 : (0 ≤ tu ∧ 0 ≤ tv ∧ 0 ≤ tu' ∧ 0 ≤ tv' ∧ bu = 1 ∧ bv = 1 ∧ ((tu' < tu ∧ tv' < tv) ∨ (tu < tu' ∧ tv < tv'))) → f_Study_isFaultOfTwo_204 K t k u v F B = some (q3V k su tu sv tv su' tu' sv' tv' bu bv, F, B) := fun z => by
      have pb := pcV_b (su := su) (tu := tu) (sv := sv) (tv := tv)
      have pb' := pcV_b (su := su') (tu := tu') (sv := sv') (tv := tv')
      unfold f_Study_isFaultOfTwo_204 f_Study_isFaultOfTwo_283 f_Study_isFaultOfTwo_284 q3V
      rw [if_pos ht, if_pos hu, if_pos hv, e5, e6, f5, f6, C_consx (by first | decide | omega) (by first | decide | omega) (by first | decide | omega) (by first | decide | omega), zb_s, e7, e8, f7, f8, C_consx (by first | decide | omega) (by first | decide | omega) (by first | decide | omega) (by first | decide | omega), zb_s, if_pos rk, if_pos z, f6, e6]
      generalize pcV su tu sv tv = p at pb ⊢
      generalize pcV su' tu' sv' tv' = q at pb' ⊢
      have o305 : ∀ (x g : Int), (0 ≤ x ∧ x < 4) → B 9 t 5 x - B 9 t 7 x = g → (-62 ≤ g ∧ g ≤ 62) → f_Study_isFaultOfTwo_305 K q p t x F B = some (if 0 < p ∧ ¬ q = p ∧ (2 < g ∨ g < -2) then 1 else 0, F, B) := fun x g hx eg hg => by
        unfold f_Study_isFaultOfTwo_305 f_Study_isFaultOfTwo_345 f_Study_isFaultOfTwo_346
        rw [if_pos (show r32 p by unfold r32; omega)]
        by_cases y1 : p = 0
        · rw [if_pos y1, if_pos (Or.inl rfl), if_neg (by first | decide | omega)]
        rw [if_neg y1, if_pos (show r32 q by unfold r32; omega)]
        by_cases y2 : p = q
        · rw [if_pos y2, if_pos (Or.inl rfl), if_neg (by first | decide | omega)]
        have ab : (zabs g ≤ 2 ↔ ¬ (2 < g ∨ g < -2)) ∧ r32 (zabs g) := by unfold zabs r32; split <;> omega
        rw [if_neg y2, if_pos ht, if_pos hx, eg, if_pos (show r32 g by unfold r32; omega), if_pos ab.2]
        by_cases y3 : zabs g ≤ 2
        · rw [if_pos y3, if_pos (Or.inl rfl), if_neg (fun y => ab.1.mp y3 y.2.2)]
        · have y4 : 2 < g ∨ g < -2 := by
            by_cases y : 2 < g ∨ g < -2
            · exact y
            · exact absurd (ab.1.mpr y) y3
          rw [if_neg y3, if_pos (Or.inr rfl), if_pos ⟨(by first | decide | omega), (by first | decide | omega), y4⟩]
      by_cases c7 : 3 ≤ k
      · rw [if_pos c7, if_pos rtv, if_pos rtu, if_neg (show ¬ k < 3 by omega)]
        by_cases c8 : tu < tv
        · rw [if_neg (show ¬ tv ≤ tu by omega), o305 v (sv - sv') hv (by rw [f5, f7]) (by first | decide | omega), if_pos c8]
        · rw [if_pos (show tv ≤ tu by omega), o305 u (su - su') hu (by rw [e5, e7]) (by first | decide | omega), if_neg c8]
      · rw [if_neg c7, if_pos (show r32 p by unfold r32; omega), if_pos (show k < 3 by omega)]
        by_cases c8 : p = k
        · rw [if_pos c8, if_pos (show r32 q by unfold r32; omega)]
          by_cases c9 : q = k
          · rw [if_pos c9, if_pos (Or.inr rfl), if_pos ⟨c8, c9⟩]
          · rw [if_neg c9, if_pos (Or.inl rfl), if_neg (fun y => c9 y.2)]
        · rw [if_neg c8, if_pos (Or.inl rfl), if_neg (fun y => c8 y.1)]
    have o167 : ∀ r f : Int, ((r = 1 ∧ (tu' < tu ∧ tv' < tv)) ∨ (r = 0 ∧ ¬ (tu' < tu ∧ tv' < tv))) → ((f = 1 ∧ (tu < tu' ∧ tv < tv')) ∨ (f = 0 ∧ ¬ (tu < tu' ∧ tv < tv'))) → f_Study_isFaultOfTwo_167 K r s t k u v f F B = some (q3V k su tu sv tv su' tu' sv' tv' bu bv, F, B) := fun r f hr hf => by
      unfold f_Study_isFaultOfTwo_167 f_Study_isFaultOfTwo_202
      rw [if_pos rs]
      by_cases y1 : s = 0
      · rw [if_pos y1, no (by first | decide | omega)]
      rw [if_neg y1, if_pos ht, if_pos hu, e9, if_pos (show r32 bu by unfold r32; omega)]
      by_cases y2 : bu = 0
      · rw [if_pos y2, no (by first | decide | omega)]
      rw [if_neg y2, if_pos hv, f9, if_pos (show r32 bv by unfold r32; omega)]
      by_cases y3 : bv = 0
      · rw [if_pos y3, no (by first | decide | omega)]
      rw [if_neg y3, if_pos (show r32 r by unfold r32; omega)]
      by_cases y4 : r = 0
      · rw [if_pos y4, if_pos (show r32 f by unfold r32; omega)]
        by_cases y5 : f = 0
        · rw [if_pos y5, no (by first | decide | omega)]
        · rw [if_neg y5]; exact o204 (by first | decide | omega)
      · rw [if_neg y4]; exact o204 (by first | decide | omega)
    have o130 : ∀ r : Int, ((r = 1 ∧ (tu' < tu ∧ tv' < tv)) ∨ (r = 0 ∧ ¬ (tu' < tu ∧ tv' < tv))) → f_Study_isFaultOfTwo_130 K s t k u v r F B = some (q3V k su tu sv tv su' tu' sv' tv' bu bv, F, B) := fun r hr => by
      unfold f_Study_isFaultOfTwo_130 f_Study_isFaultOfTwo_166
      rw [if_pos ht, if_pos hu, e6, e8, if_pos rtu, if_pos rtu']
      by_cases y1 : tu' ≤ tu
      · rw [if_pos y1]; exact o167 r 0 hr (by first | decide | omega)
      rw [if_neg y1, if_pos hv, f6, f8, if_pos rtv, if_pos rtv']
      by_cases y2 : tv' ≤ tv
      · rw [if_pos y2]; exact o167 r 0 hr (by first | decide | omega)
      · rw [if_neg y2]; exact o167 r 1 hr (by first | decide | omega)
    rw [if_pos ht, if_pos hu, e6, e8, if_pos rtu, if_pos rtu']
    by_cases y1 : tu ≤ tu'
    · rw [if_pos y1]; exact o130 0 (by first | decide | omega)
    rw [if_neg y1, if_pos hv, f6, f8, if_pos rtv, if_pos rtv']
    by_cases y2 : tv ≤ tv'
    · rw [if_pos y2]; exact o130 0 (by first | decide | omega)
    · rw [if_neg y2]; exact o130 1 (by first | decide | omega)
  rw [if_neg c2, e8, if_pos rtu']
  by_cases c3 : tu' = -1
  · rw [if_pos c3]; exact o47 0 (by first | decide | omega)
  rw [if_neg c3, f8, if_pos rtv']
  by_cases c4 : tv' = -1
  · rw [if_pos c4]; exact o47 0 (by first | decide | omega)
  · rw [if_neg c4]; exact o47 1 (by first | decide | omega)
end
section
variable {K : zK} {V p t : Int} {S : zV}
theorem C_topx {u i : Int} {F : zF} {B : zB} (hS : SG V S) (h : SCl K V p S F B) (u0 : 0 ≤ u) (u1 : u < V) (i0 : 0 ≤ i) (i1 : i < S u 0 0 0) : ∀ (d N : Nat) (j l : Int), j + d = S u 2 i 0 → 0 ≤ j → d < N → -1 ≤ l → l < j → f_Event_top_4 K N j l (B 4 (B 6 p 0 u) 5 i) F B = some (tpN (tnS S u i) d j l, F, B) := by
  obtain ⟨_, _, q2⟩ := h.2.2 u u0 u1
  obtain ⟨he, _, e10, ep⟩ := q2 i i0 i1
  obtain ⟨_, c6, gp⟩ := (hS.2 u u0 u1).2.2.1 i i0 i1
  generalize B 4 (B 6 p 0 u) 5 i = e at he e10 ep ⊢
  intro d
  induction d with
  | zero =>
    intro N j l jd j0 hN l0 l1
    obtain ⟨n, rfl⟩ : ∃ n, N = n + 1 := ⟨N - 1, (by first | decide | omega)⟩
    rw [f_Event_top_4, if_pos he, if_pos (show r32 j by unfold r32; omega), e10, if_pos (show r32 (S u 2 i 0) by unfold r32; omega), if_pos (show S u 2 i 0 ≤ j by omega), tpN]
  | succ d ih =>
    intro N j l jd j0 hN l0 l1
    obtain ⟨n, rfl⟩ : ∃ n, N = n + 1 := ⟨N - 1, (by first | decide | omega)⟩
    have a := ih n (j + 1) j (by first | decide | omega) (by first | decide | omega) (by first | decide | omega) (by first | decide | omega) (by first | decide | omega)
    rw [f_Event_top_4, if_pos he, if_pos (show r32 j by unfold r32; omega), e10, if_pos (show r32 (S u 2 i 0) by unfold r32; omega), if_neg (show ¬ S u 2 i 0 ≤ j by omega), if_pos (show r32 l by unfold r32; omega), tpN]
    by_cases c : l = -1
    · rw [if_pos c, if_pos c, f_Event_top_30, f_Event_top_32]
      exact a
    · have b := ih n (j + 1) l (by first | decide | omega) (by first | decide | omega) (by first | decide | omega) (by first | decide | omega) (by first | decide | omega)
      obtain ⟨p1, p2⟩ := ep j j0 (by first | decide | omega)
      obtain ⟨q1, q2⟩ := ep l (by first | decide | omega) (by first | decide | omega)
      obtain ⟨s1, s2⟩ := gp j j0 (by first | decide | omega)
      obtain ⟨t1, t2⟩ := gp l (by first | decide | omega) (by first | decide | omega)
      have m1 := tnv_r s1.1 s1.2 s2.1 s2.2
      have m2 := tnv_r t1.1 t1.2 t2.1 t2.2
      rw [if_neg c, if_neg c, C_tone he (by first | decide | omega) (by rw [p1]; exact s1), zb_s, C_tone he (by first | decide | omega) (by rw [q1]; exact t1), zb_s, p1, p2, q1, q2, if_pos (show r32 (tnv (S u 3 i j) + S u 4 i j) by unfold r32; omega), if_pos (show r32 (tnv (S u 3 i l) + S u 4 i l) by unfold r32; omega)]
      by_cases c1 : tnS S u i j < tnS S u i l
      · have c2 : tnv (S u 3 i j) + S u 4 i j < tnv (S u 3 i l) + S u 4 i l := c1
        rw [if_pos c1, if_pos c2, f_Event_top_32]
        exact b
      · have c2 : ¬ tnv (S u 3 i j) + S u 4 i j < tnv (S u 3 i l) + S u 4 i l := c1
        rw [if_neg c1, if_neg c2, f_Event_top_30, f_Event_top_32]
        exact a
/-- the lines that are taken: 5 steps, 6 tones, 7 8 the old ones, 9 whether it begins -/
def m59 (t : Int) (B B' : zB) : Prop := ∀ c y k x, ¬ (c = 9 ∧ y = t ∧ 5 ≤ k ∧ k ≤ 9) → B' c y k x = B c y k x
theorem C_tl2x {j : Int} {T : Int → Int} {L : Int → Int → Int} {F : zF} (hK : 60000 ≤ K.1) (hS : SG V S) (ht : 0 ≤ t ∧ t < K.2 9) (hj : 0 ≤ j ∧ j < 800) (hT : 0 ≤ T j ∧ T j ≤ 1000000000000) : ∀ (d N : Nat) (u : Int) (B : zB), u + d = V → 0 ≤ u → d < N → SCl K V p S F B → B 9 t 1 j = T j → (∀ u', 0 ≤ u' → u' < V → B 9 t (280 + u'.toNat) j = L u' j ∧ 0 ≤ L u' j ∧ L u' j < S u' 0 0 0) → ∃ B', f_Study_takeLines_2 K N u t p j F B = some (0, F, B') ∧ m59 t B B' ∧ (∀ k x, 5 ≤ k → k ≤ 9 → 0 ≤ x → x < u → B' 9 t k x = B 9 t k x) ∧ ∀ u', u ≤ u' → u' < V → B' 9 t 5 u' = lS S u' (L u' j) ∧ B' 9 t 6 u' = lT S u' (L u' j) ∧ B' 9 t 7 u' = B 9 t 5 u' ∧ B' 9 t 8 u' = B 9 t 6 u' ∧ B' 9 t 9 u' = if S u' 1 (L u' j) 0 = T j then 1 else 0 := by
  have hV := hS.1
  intro d
  induction d with
  | zero =>
    intro N u B hu u0 hN h h1 hL
    obtain ⟨n, rfl⟩ : ∃ n, N = n + 1 := ⟨N - 1, (by first | decide | omega)⟩
    rw [f_Study_takeLines_2, if_pos h.1, if_pos (show r32 u by unfold r32; omega), h.2.1, if_pos (show r32 V by unfold r32; omega), if_pos (show V ≤ u by omega)]
    exact ⟨B, rfl, fun _ _ _ _ _ => rfl, fun _ _ _ _ _ _ => rfl, fun u' a b => (by first | decide | omega)⟩
  | succ d ih =>
    intro N u B hu u0 hN h h1 hL
    obtain ⟨n, rfl⟩ : ∃ n, N = n + 1 := ⟨N - 1, (by first | decide | omega)⟩
    have h' := h
    obtain ⟨hp, hV1, h3⟩ := h
    have u1 : u < V := by omega
    obtain ⟨q0, q1, q2⟩ := h3 u u0 u1
    obtain ⟨l1, l2, l3⟩ := hL u u0 u1
    obtain ⟨g1, _, g3, _⟩ := hS.2 u u0 u1
    obtain ⟨he, e0, e10, ep⟩ := q2 (L u j) l2 l3
    obtain ⟨pl, c6, gp⟩ := g3 (L u j) l2 l3
    have hu4 : 0 ≤ u ∧ u < 4 := by omega
    have ev : f_Study_eventOf K t p u j F B = some (B 4 (B 6 p 0 u) 5 (L u j), F, B) := by
      unfold f_Study_eventOf f_Study_eventOf_45
      rw [if_pos ht, if_pos hu4, if_pos hj, l1, if_pos (show r32 (L u j) by unfold r32; omega), if_neg (show ¬ L u j < 0 by omega), if_pos hp, if_pos q0, q1, if_pos (show r32 (S u 0 0 0) by unfold r32; omega), if_pos l3, if_pos (show 0 ≤ L u j ∧ L u j < 200 by omega)]
    have e6 : (zup4 B 9 t 7 u (B 9 t 5 u)) 9 t 6 u = B 9 t 6 u := by rw [zup4_v, if_neg (by first | decide | omega)]
    have f2 : ∀ c y k x, ¬ (c = 9 ∧ y = t ∧ (k = 7 ∨ k = 8) ∧ x = u) → (zup4 (zup4 B 9 t 7 u (B 9 t 5 u)) 9 t 8 u (B 9 t 6 u)) c y k x = B c y k x := fun c y k x nn => by rw [zup4_v, if_neg (by first | decide | omega), zup4_v, if_neg (by first | decide | omega)]
    have a7 : (zup4 (zup4 B 9 t 7 u (B 9 t 5 u)) 9 t 8 u (B 9 t 6 u)) 9 t 7 u = B 9 t 5 u := by rw [zup4_v, if_neg (by first | decide | omega), zup4_v, if_pos ⟨rfl, rfl, rfl, rfl⟩]
    have a8 : (zup4 (zup4 B 9 t 7 u (B 9 t 5 u)) 9 t 8 u (B 9 t 6 u)) 9 t 8 u = B 9 t 6 u := by rw [zup4_v, if_pos ⟨rfl, rfl, rfl, rfl⟩]
    rw [f_Study_takeLines_2, if_pos hp, if_pos (show r32 u by unfold r32; omega), hV1, if_pos (show r32 V by unfold r32; omega), if_neg (show ¬ V ≤ u by omega), if_pos ht, ev, zb_s, if_pos hu4, if_neg (show ¬ B 4 (B 6 p 0 u) 5 (L u j) < 0 by omega), if_pos he, e6]
    generalize zup4 (zup4 B 9 t 7 u (B 9 t 5 u)) 9 t 8 u (B 9 t 6 u) = B2 at f2 a7 a8 ⊢
    have h2 : SCl K V p S F B2 := SCl_f (t := t) h' stF_r (fun c y k x nn => f2 c y k x (by first | decide | omega))
    have tp := C_topx hS h2 u0 u1 l2 l3 (S u 2 (L u j) 0).toNat K.1 0 (-1) (by first | decide | omega) (by decide) (by first | decide | omega) (by decide) (by decide)
    rw [show B2 4 (B2 6 p 0 u) 5 (L u j) = B 4 (B 6 p 0 u) 5 (L u j) by rw [f2 6 p 0 u (by first | decide | omega), f2 4 _ 5 _ (by first | decide | omega)]] at tp
    have tp' : f_Event_top K (B 4 (B 6 p 0 u) 5 (L u j)) F B2 = some (tpS S u (L u j), F, B2) := tp
    rw [tp', zb_s]
    have tb := tpS_b hS u0 u1 l2 l3
    -- the tone, and on to the next voice
    have fin : ∀ (s y z : Int), s = (if S u 1 (L u j) 0 = T j then 1 else 0) → y = lS S u (L u j) → z = lT S u (L u j) → ∃ B', f_Study_takeLines_136 (f_Study_takeLines_2 K n) K u t p j t u z F (zup4 (zup4 B2 9 t 9 u s) 9 t 5 u y) = some (0, F, B') ∧ m59 t B B' ∧ (∀ k x, 5 ≤ k → k ≤ 9 → 0 ≤ x → x < u → B' 9 t k x = B 9 t k x) ∧ ∀ u', u ≤ u' → u' < V → B' 9 t 5 u' = lS S u' (L u' j) ∧ B' 9 t 6 u' = lT S u' (L u' j) ∧ B' 9 t 7 u' = B 9 t 5 u' ∧ B' 9 t 8 u' = B 9 t 6 u' ∧ B' 9 t 9 u' = if S u' 1 (L u' j) 0 = T j then 1 else 0 := fun s y z hs hy hz => by
      have f3 : ∀ c y' k x, ¬ (c = 9 ∧ y' = t ∧ 5 ≤ k ∧ k ≤ 9 ∧ x = u) → (zup4 (zup4 (zup4 B2 9 t 9 u s) 9 t 5 u y) 9 t 6 u z) c y' k x = B c y' k x := fun c y' k x nn => by rw [zup4_v, if_neg (by first | decide | omega), zup4_v, if_neg (by first | decide | omega), zup4_v, if_neg (by first | decide | omega), f2 c y' k x (by first | decide | omega)]
      rw [f_Study_takeLines_136, if_pos ht, if_pos hu4]
      obtain ⟨B', x1, x2, x3, x4⟩ := ih n (u + 1) (zup4 (zup4 (zup4 B2 9 t 9 u s) 9 t 5 u y) 9 t 6 u z) (by first | decide | omega) (by first | decide | omega) (by first | decide | omega) (SCl_f (t := t) h' stF_r (fun c y k x nn => f3 c y k x (by first | decide | omega))) (by rw [f3 9 t 1 j (by first | decide | omega)]; exact h1) (fun u' a b => by rw [f3 9 t _ j (by first | decide | omega)]; exact hL u' a b)
      refine ⟨B', x1, fun c y k x nn => by rw [x2 c y k x nn, f3 c y k x (by first | decide | omega)], fun k x k0 k1 x0 x1' => by rw [x3 k x k0 k1 x0 (by first | decide | omega), f3 9 t k x (by first | decide | omega)], fun u' a b => ?_⟩
      by_cases zu : u' = u
      · rw [zu, x3 5 u (by decide) (by decide) u0 (by first | decide | omega), x3 6 u (by decide) (by decide) u0 (by first | decide | omega), x3 7 u (by decide) (by decide) u0 (by first | decide | omega), x3 8 u (by decide) (by decide) u0 (by first | decide | omega), x3 9 u (by decide) (by decide) u0 (by first | decide | omega)]
        refine ⟨?_, ?_, ?_, ?_, ?_⟩
        · rw [zup4_v, if_neg (by first | decide | omega), zup4_v, if_pos ⟨rfl, rfl, rfl, rfl⟩]; exact hy
        · rw [zup4_v, if_pos ⟨rfl, rfl, rfl, rfl⟩]; exact hz
        · rw [zup4_v, if_neg (by first | decide | omega), zup4_v, if_neg (by first | decide | omega), zup4_v, if_neg (by first | decide | omega)]; exact a7
        · rw [zup4_v, if_neg (by first | decide | omega), zup4_v, if_neg (by first | decide | omega), zup4_v, if_neg (by first | decide | omega)]; exact a8
        · rw [zup4_v, if_neg (by first | decide | omega), zup4_v, if_neg (by first | decide | omega), zup4_v, if_pos ⟨rfl, rfl, rfl, rfl⟩]; exact hs
      · have := x4 u' (by first | decide | omega) b
        rw [f3 9 t 5 u' (by first | decide | omega), f3 9 t 6 u' (by first | decide | omega)] at this
        exact this
    have o89 : ∀ s : Int, s = (if S u 1 (L u j) 0 = T j then 1 else 0) → (s = 0 ∨ s = 1) → ∃ B', f_Study_takeLines_89 (f_Study_takeLines_2 K n) K (tpS S u (L u j)) (B 4 (B 6 p 0 u) 5 (L u j)) u t p j t u s F B2 = some (0, F, B') ∧ m59 t B B' ∧ (∀ k x, 5 ≤ k → k ≤ 9 → 0 ≤ x → x < u → B' 9 t k x = B 9 t k x) ∧ ∀ u', u ≤ u' → u' < V → B' 9 t 5 u' = lS S u' (L u' j) ∧ B' 9 t 6 u' = lT S u' (L u' j) ∧ B' 9 t 7 u' = B 9 t 5 u' ∧ B' 9 t 8 u' = B 9 t 6 u' ∧ B' 9 t 9 u' = if S u' 1 (L u' j) 0 = T j then 1 else 0 := fun s hs hs1 => by
      rw [f_Study_takeLines_89, if_pos ht, if_pos hu4, if_pos hs1, if_pos ht, if_pos (show r32 (tpS S u (L u j)) by unfold r32; omega)]
      by_cases z : tpS S u (L u j) = -1
      · rw [if_pos z, f_Study_takeLines_113, if_pos ht, if_pos hu4, if_pos ht, if_pos (show r32 (tpS S u (L u j)) by unfold r32; omega), if_pos z]
        exact fin s (-1) (-1) hs (by unfold lS; rw [if_pos z]) (by unfold lT; rw [if_pos z])
      · have z0 : 0 ≤ tpS S u (L u j) ∧ tpS S u (L u j) < S u 2 (L u j) 0 := by omega
        obtain ⟨p1, p2⟩ := ep (tpS S u (L u j)) z0.1 z0.2
        obtain ⟨k1, k2⟩ := gp (tpS S u (L u j)) z0.1 z0.2
        have fx : ∀ k x, B2 1 (B 4 (B 6 p 0 u) 5 (L u j)) k x = B 1 (B 4 (B 6 p 0 u) 5 (L u j)) k x := fun k x => f2 1 _ k x (by first | decide | omega)
        have gx : ∀ k x s y, (zup4 (zup4 B2 9 t 9 u s) 9 t 5 u y) 1 (B 4 (B 6 p 0 u) 5 (L u j)) k x = B 1 (B 4 (B 6 p 0 u) 5 (L u j)) k x := fun k x s y => by rw [zup4_v, if_neg (by first | decide | omega), zup4_v, if_neg (by first | decide | omega), fx]
        rw [if_neg z, if_pos he, if_pos (show 0 ≤ tpS S u (L u j) ∧ tpS S u (L u j) < 6 by omega), show (zup4 B2 9 t 9 u s) 1 (B 4 (B 6 p 0 u) 5 (L u j)) 12 (tpS S u (L u j)) = S u 3 (L u j) (tpS S u (L u j)) by rw [zup4_v, if_neg (by first | decide | omega), fx, p1], f_Study_takeLines_113, if_pos ht, if_pos hu4, if_pos ht, if_pos (show r32 (tpS S u (L u j)) by unfold r32; omega), if_neg z, if_pos he, C_tone he (by first | decide | omega) (by rw [gx, p1]; exact k1), zb_s, gx, gx, p1, p2]
        exact fin s _ _ hs (by unfold lS; rw [if_neg z]) (by unfold lT; rw [if_neg z]; rfl)
    unfold f_Study_takeLines_57 f_Study_takeLines_88
    rw [if_pos ht, if_neg (show ¬ B 4 (B 6 p 0 u) 5 (L u j) < 0 by omega), if_pos he, if_pos hj, e0, f2 9 t 1 j (by first | decide | omega), h1, if_pos (show r64 (S u 1 (L u j) 0) by unfold r64; omega), if_pos (show r64 (T j) by unfold r64; omega)]
    by_cases c : zcmp (S u 1 (L u j) 0) (T j) = 0
    · rw [if_pos c]; exact o89 1 (by rw [if_pos (zcmp_0.mp c)]) (Or.inr rfl)
    · rw [if_neg c]; exact o89 0 (by rw [if_neg (fun z => c (zcmp_0.mpr z))]) (Or.inl rfl)
end
end
end
section
section
/-! ===== study: all its faults, class, exactly ===== -/
variable {K : zK} {V p t : Int} {S : zV} {L : Int → Int → Int}
def f26 (t : Int) (B B' : zB) : Prop := ∀ c y k x, ¬ (c = 9 ∧ y = t ∧ 260 ≤ k ∧ k ≤ 263) → B' c y k x = B c y k x
def f92 (t : Int) (F F' : zF) : Prop := ∀ c y k, ¬ (c = 9 ∧ y = t ∧ k = 2) → F' c y k = F c y k
def GG (t : Int) (F0 : zF) (B0 : zB) (F : zF) (B : zB) : Prop := f92 t F0 F ∧ f26 t B0 B
theorem GG_t {F0 F1 F2 : zF} {B0 B1 B2 : zB} (h : GG t F0 B0 F1 B1) (h' : GG t F1 B1 F2 B2) : GG t F0 B0 F2 B2 := ⟨fun c i k n => by rw [h'.1 c i k n, h.1 c i k n], fun c i k x n => by rw [h'.2 c i k x n, h.2 c i k x n]⟩
theorem GG_r {F : zF} {B : zB} : GG t F B F B := ⟨fun _ _ _ _ => rfl, fun _ _ _ _ _ => rfl⟩
theorem C_addx {m k u v : Int} {s : zQ} {F : zF} {B : zB} (ht : 0 ≤ t ∧ t < K.2 9) (h : FCl t s F B) : ∃ F' B', f_Study_addFault K t m k u v F B = some (0, F', B') ∧ GG t F B F' B' ∧ FCl t (aF m k u v s) F' B' := by
  have h' := h
  obtain ⟨h1, h2, h3⟩ := h
  unfold f_Study_addFault
  rw [if_pos ht, h1, if_pos (by unfold r32; omega)]
  by_cases c : s.1 = 300
  · rw [if_neg (show ¬ s.1 < 300 by omega), aF_3 c]
    exact ⟨F, B, rfl, GG_r, h'⟩
  · rw [if_pos (show s.1 < 300 by omega), if_pos (show 0 ≤ s.1 ∧ s.1 < 300 by omega)]
    refine ⟨_, _, rfl, ⟨fun c i k n => by rw [zup3_v, if_neg n], fun c i k x n => by rw [zup4_v, if_neg (by first | decide | omega), zup4_v, if_neg (by first | decide | omega), zup4_v, if_neg (by first | decide | omega), zup4_v, if_neg (by first | decide | omega)]⟩, ?_⟩
    unfold aF
    rw [if_neg c]
    refine ⟨by rw [zup3_v, if_pos ⟨rfl, rfl, rfl⟩], by show 0 ≤ s.1 + 1 ∧ s.1 + 1 ≤ 300; omega, fun i i0 i1 => ?_⟩
    have i1 : i < s.1 + 1 := i1
    by_cases e : i = s.1
    · rw [e]
      refine ⟨?_, ?_, ?_, ?_⟩
      · rw [zup4_v, if_neg (by first | decide | omega), zup4_v, if_neg (by first | decide | omega), zup4_v, if_neg (by first | decide | omega), zup4_v, if_pos ⟨rfl, rfl, rfl, rfl⟩]
        show m = if s.1 = s.1 then (if 0 = 0 then m else if 0 = 1 then k else if 0 = 2 then u else v) else s.2 0 s.1
        rw [if_pos rfl, if_pos rfl]
      · rw [zup4_v, if_neg (by first | decide | omega), zup4_v, if_neg (by first | decide | omega), zup4_v, if_pos ⟨rfl, rfl, rfl, rfl⟩]
        show k = if s.1 = s.1 then (if 1 = 0 then m else if 1 = 1 then k else if 1 = 2 then u else v) else s.2 1 s.1
        rw [if_pos rfl, if_neg (by decide), if_pos rfl]
      · rw [zup4_v, if_neg (by first | decide | omega), zup4_v, if_pos ⟨rfl, rfl, rfl, rfl⟩]
        show u = if s.1 = s.1 then (if 2 = 0 then m else if 2 = 1 then k else if 2 = 2 then u else v) else s.2 2 s.1
        rw [if_pos rfl, if_neg (by decide), if_neg (by decide), if_pos rfl]
      · rw [zup4_v, if_pos ⟨rfl, rfl, rfl, rfl⟩]
        show v = if s.1 = s.1 then (if 3 = 0 then m else if 3 = 1 then k else if 3 = 2 then u else v) else s.2 3 s.1
        rw [if_pos rfl, if_neg (by decide), if_neg (by decide), if_neg (by decide)]
    · have a : ∀ r, (fun r i => if i = s.1 then (if r = 0 then m else if r = 1 then k else if r = 2 then u else v) else s.2 r i) r i = s.2 r i := fun r => by
        show (if i = s.1 then (if r = 0 then m else if r = 1 then k else if r = 2 then u else v) else s.2 r i) = s.2 r i
        rw [if_neg e]
      obtain ⟨b1, b2, b3, b4⟩ := h3 i i0 (by first | decide | omega)
      refine ⟨?_, ?_, ?_, ?_⟩
      · rw [zup4_v, if_neg (by first | decide | omega), zup4_v, if_neg (by first | decide | omega), zup4_v, if_neg (by first | decide | omega), zup4_v, if_neg (by first | decide | omega), b1]; exact (a 0).symm
      · rw [zup4_v, if_neg (by first | decide | omega), zup4_v, if_neg (by first | decide | omega), zup4_v, if_neg (by first | decide | omega), zup4_v, if_neg (by first | decide | omega), b2]; exact (a 1).symm
      · rw [zup4_v, if_neg (by first | decide | omega), zup4_v, if_neg (by first | decide | omega), zup4_v, if_neg (by first | decide | omega), zup4_v, if_neg (by first | decide | omega), b3]; exact (a 2).symm
      · rw [zup4_v, if_neg (by first | decide | omega), zup4_v, if_neg (by first | decide | omega), zup4_v, if_neg (by first | decide | omega), zup4_v, if_neg (by first | decide | omega), b4]; exact (a 3).symm
/-- the lines of moment m and of the one before stand in the rows -/
def LNs (t V m : Int) (S : zV) (L : Int → Int → Int) (B : zB) : Prop := ∀ u, 0 ≤ u → u < V → (B 9 t 5 u = lS S u (L u m) ∧ B 9 t 6 u = lT S u (L u m) ∧ B 9 t 7 u = lS S u (L u (m - 1)) ∧ B 9 t 8 u = lT S u (L u (m - 1)) ∧ B 9 t 9 u = if L u m = L u (m - 1) then 0 else 1) ∧ lnB (lT S u (L u m)) (lS S u (L u m)) ∧ lnB (lT S u (L u (m - 1))) (lS S u (L u (m - 1)))
theorem LNs_f {m : Int} {B B' : zB} (h : LNs t V m S L B) (f : f26 t B B') : LNs t V m S L B' := fun u u0 u1 => by
  rw [f 9 t 5 u (by first | decide | omega), f 9 t 6 u (by first | decide | omega), f 9 t 7 u (by first | decide | omega), f 9 t 8 u (by first | decide | omega), f 9 t 9 u (by first | decide | omega)]
  exact h u u0 u1
theorem bgB {a b : Int} : (if a = b then (0 : Int) else 1) = 0 ∨ (if a = b then (0 : Int) else 1) = 1 := by split <;> omega
theorem Y_ff22 {m k u : Int} {rec2 : Int → Int → Int → Int → zF → zB → zO} {rec10 : Int → Int → Int → Int → Int → zF → zB → zO} (hV : 1 ≤ V ∧ V ≤ 4) (ht : 0 ≤ t ∧ t < K.2 9) (u0 : 0 ≤ u) (u1 : u < V) (hk : 1 ≤ k ∧ k ≤ 4) : ∀ (d n : Nat) (v : Int) (s : zQ) (F : zF) (B : zB), 0 ≤ v → v + d = V → d < n → LNs t V m S L B → FCl t s F B → ∃ F' B', f_Study_findFaults_22 rec2 rec10 K n v u k t V m F B = rec10 (u + 1) k t V m F' B' ∧ GG t F B F' B' ∧ FCl t (fwQ S L m k u d v s) F' B' := by
  intro d
  induction d with
  | zero =>
    intro n v s F B v0 vd hn h hf
    obtain ⟨n, rfl⟩ : ∃ q, n = q + 1 := ⟨n - 1, (by first | decide | omega)⟩
    rw [f_Study_findFaults_22, if_pos (show r32 v by unfold r32; omega), if_pos (show r32 V by unfold r32; omega), if_pos (show V ≤ v by omega)]
    exact ⟨F, B, rfl, GG_r, hf⟩
  | succ d ih =>
    intro n v s F B v0 vd hn h hf
    obtain ⟨n, rfl⟩ : ∃ q, n = q + 1 := ⟨n - 1, (by first | decide | omega)⟩
    obtain ⟨⟨a5, a6, a7, a8, a9⟩, la, la'⟩ := h u u0 u1
    obtain ⟨⟨b5, b6, b7, b8, b9⟩, lb, lb'⟩ := h v v0 (by first | decide | omega)
    have e2 : f_Study_isFaultOfTwo K t k u v F B = some (g2Q S L m k u v, F, B) := C_twox ht (show 0 ≤ u ∧ u < 4 by omega) (show 0 ≤ v ∧ v < 4 by omega) hk a5 a6 a7 a8 a9 b5 b6 b7 b8 b9 la la' lb lb' bgB bgB
    have gb := g2Q_b (S := S) (L := L) (m := m) (k := k) (u := u) (v := v)
    rw [f_Study_findFaults_22, if_pos (show r32 v by unfold r32; omega), if_pos (show r32 V by unfold r32; omega), if_neg (show ¬ V ≤ v by omega), if_pos ht, e2, zb_s, if_pos (show r32 (g2Q S L m k u v) by unfold r32; omega), fwQ]
    by_cases z : g2Q S L m k u v = 0
    · rw [if_pos z, if_pos z, f_Study_findFaults_50]
      exact ih n (v + 1) s F B (by first | decide | omega) (by first | decide | omega) (by first | decide | omega) h hf
    · obtain ⟨F1, B1, x1, x2, x3⟩ := C_addx (K := K) (m := m) (k := k) (u := u) (v := v) ht hf
      rw [if_neg z, if_neg z, x1, zb_s, f_Study_findFaults_50]
      obtain ⟨F2, B2, y1, y2, y3⟩ := ih n (v + 1) _ F1 B1 (by first | decide | omega) (by first | decide | omega) (by first | decide | omega) (LNs_f h x2.2) x3
      exact ⟨F2, B2, y1, GG_t x2 y2, y3⟩
theorem Y_ff10 {m k : Int} {rec2 : Int → Int → Int → Int → zF → zB → zO} (hK : 100 ≤ K.1) (hV : 1 ≤ V ∧ V ≤ 4) (ht : 0 ≤ t ∧ t < K.2 9) (hk : 1 ≤ k ∧ k ≤ 4) : ∀ (d n : Nat) (u : Int) (s : zQ) (F : zF) (B : zB), 0 ≤ u → u + d = V → d < n → LNs t V m S L B → FCl t s F B → ∃ F' B', f_Study_findFaults_10 rec2 K n u k t V m F B = rec2 (k + 1) t V m F' B' ∧ GG t F B F' B' ∧ FCl t (fuQ S L V m k d u s) F' B' := by
  intro d
  induction d with
  | zero =>
    intro n u s F B u0 ud hn h hf
    obtain ⟨n, rfl⟩ : ∃ q, n = q + 1 := ⟨n - 1, (by first | decide | omega)⟩
    rw [f_Study_findFaults_10, if_pos (show r32 u by unfold r32; omega), if_pos (show r32 V by unfold r32; omega), if_pos (show V ≤ u by omega)]
    exact ⟨F, B, rfl, GG_r, hf⟩
  | succ d ih =>
    intro n u s F B u0 ud hn h hf
    obtain ⟨n, rfl⟩ : ∃ q, n = q + 1 := ⟨n - 1, (by first | decide | omega)⟩
    obtain ⟨F1, B1, x1, x2, x3⟩ := Y_ff22 (rec2 := rec2) (rec10 := f_Study_findFaults_10 rec2 K n) hV ht u0 (show u < V by omega) hk (V - (u + 1)).toNat K.1 (u + 1) s F B (by first | decide | omega) (by first | decide | omega) (by first | decide | omega) h hf
    obtain ⟨F2, B2, y1, y2, y3⟩ := ih n (u + 1) _ F1 B1 (by first | decide | omega) (by first | decide | omega) (by first | decide | omega) (LNs_f h x2.2) x3
    rw [f_Study_findFaults_10, if_pos (show r32 u by unfold r32; omega), if_pos (show r32 V by unfold r32; omega), if_neg (show ¬ V ≤ u by omega), x1, fuQ]
    exact ⟨F2, B2, y1, GG_t x2 y2, y3⟩
theorem Y_ff79 {m k : Int} {rec70 : Int → Int → Int → Int → zF → zB → zO} (hV : 1 ≤ V ∧ V ≤ 4) (ht : 0 ≤ t ∧ t < K.2 9) (hk : k = 5 ∨ k = 6) : ∀ (d n : Nat) (u : Int) (s : zQ) (F : zF) (B : zB), 0 ≤ u → u + d = V → d < n → LNs t V m S L B → FCl t s F B → ∃ F' B', f_Study_findFaults_79 rec70 K n u k t V m F B = rec70 (k + 1) t V m F' B' ∧ GG t F B F' B' ∧ FCl t (foQ S L m k d u s) F' B' := by
  intro d
  induction d with
  | zero =>
    intro n u s F B u0 ud hn h hf
    obtain ⟨n, rfl⟩ : ∃ q, n = q + 1 := ⟨n - 1, (by first | decide | omega)⟩
    rw [f_Study_findFaults_79, if_pos (show r32 u by unfold r32; omega), if_pos (show r32 V by unfold r32; omega), if_pos (show V ≤ u by omega)]
    exact ⟨F, B, rfl, GG_r, hf⟩
  | succ d ih =>
    intro n u s F B u0 ud hn h hf
    obtain ⟨n, rfl⟩ : ∃ q, n = q + 1 := ⟨n - 1, (by first | decide | omega)⟩
    obtain ⟨⟨a5, a6, a7, a8, a9⟩, la, la'⟩ := h u u0 (by first | decide | omega)
    have e1 : f_Study_isFaultOfOne K t k u F B = some (g1Q S L m k u, F, B) := C_onex ht (show 0 ≤ u ∧ u < 4 by omega) hk a5 a6 a7 a8 a9 la la' bgB
    have gb := g1Q_b (S := S) (L := L) (m := m) (k := k) (u := u)
    rw [f_Study_findFaults_79, if_pos (show r32 u by unfold r32; omega), if_pos (show r32 V by unfold r32; omega), if_neg (show ¬ V ≤ u by omega), if_pos ht, e1, zb_s, if_pos (show r32 (g1Q S L m k u) by unfold r32; omega), foQ]
    by_cases z : g1Q S L m k u = 0
    · rw [if_pos z, if_pos z, f_Study_findFaults_104]
      exact ih n (u + 1) s F B (by first | decide | omega) (by first | decide | omega) (by first | decide | omega) h hf
    · obtain ⟨F1, B1, x1, x2, x3⟩ := C_addx (K := K) (m := m) (k := k) (u := u) (v := -1) ht hf
      rw [if_neg z, if_neg z, x1, zb_s, f_Study_findFaults_104]
      obtain ⟨F2, B2, y1, y2, y3⟩ := ih n (u + 1) _ F1 B1 (by first | decide | omega) (by first | decide | omega) (by first | decide | omega) (LNs_f h x2.2) x3
      exact ⟨F2, B2, y1, GG_t x2 y2, y3⟩
theorem Y_ff70 {m : Int} (hK : 100 ≤ K.1) (hV : 1 ≤ V ∧ V ≤ 4) (ht : 0 ≤ t ∧ t < K.2 9) : ∀ (d n : Nat) (k : Int) (s : zQ) (F : zF) (B : zB), 5 ≤ k → k + d = 7 → d < n → LNs t V m S L B → FCl t s F B → ∃ F' B', f_Study_findFaults_70 K n k t V m F B = some (0, F', B') ∧ GG t F B F' B' ∧ FCl t (fkQ S L V m d k s) F' B' := by
  intro d
  induction d with
  | zero =>
    intro n k s F B k0 kd hn h hf
    obtain ⟨n, rfl⟩ : ∃ q, n = q + 1 := ⟨n - 1, (by first | decide | omega)⟩
    rw [f_Study_findFaults_70, if_pos (show r32 k by unfold r32; omega), if_pos (show 6 < k by omega)]
    exact ⟨F, B, rfl, GG_r, hf⟩
  | succ d ih =>
    intro n k s F B k0 kd hn h hf
    obtain ⟨n, rfl⟩ : ∃ q, n = q + 1 := ⟨n - 1, (by first | decide | omega)⟩
    obtain ⟨F1, B1, x1, x2, x3⟩ := Y_ff79 (rec70 := f_Study_findFaults_70 K n) hV ht (show k = 5 ∨ k = 6 by omega) V.toNat K.1 0 s F B (by decide) (by first | decide | omega) (by first | decide | omega) h hf
    obtain ⟨F2, B2, y1, y2, y3⟩ := ih n (k + 1) _ F1 B1 (by first | decide | omega) (by first | decide | omega) (by first | decide | omega) (LNs_f h x2.2) x3
    rw [f_Study_findFaults_70, if_pos (show r32 k by unfold r32; omega), if_neg (show ¬ 6 < k by omega), x1, fkQ, if_neg (show ¬ k ≤ 4 by omega)]
    exact ⟨F2, B2, y1, GG_t x2 y2, y3⟩
theorem Y_ff2 {m : Int} (hK : 100 ≤ K.1) (hV : 1 ≤ V ∧ V ≤ 4) (ht : 0 ≤ t ∧ t < K.2 9) : ∀ (d n : Nat) (k : Int) (s : zQ) (F : zF) (B : zB), 1 ≤ k → k + d = 5 → d < n → LNs t V m S L B → FCl t s F B → ∃ F' B', f_Study_findFaults_2 K n k t V m F B = some (0, F', B') ∧ GG t F B F' B' ∧ FCl t (fkQ S L V m (d + 2) k s) F' B' := by
  intro d
  induction d with
  | zero =>
    intro n k s F B k0 kd hn h hf
    obtain ⟨n, rfl⟩ : ∃ q, n = q + 1 := ⟨n - 1, (by first | decide | omega)⟩
    obtain rfl : k = 5 := by omega
    rw [f_Study_findFaults_2, if_pos (show r32 5 by decide), if_pos (show (4 : Int) < 5 by decide)]
    exact Y_ff70 hK hV ht 2 K.1 5 s F B (by decide) (by decide) (by first | decide | omega) h hf
  | succ d ih =>
    intro n k s F B k0 kd hn h hf
    obtain ⟨n, rfl⟩ : ∃ q, n = q + 1 := ⟨n - 1, (by first | decide | omega)⟩
    obtain ⟨F1, B1, x1, x2, x3⟩ := Y_ff10 (rec2 := f_Study_findFaults_2 K n) hK hV ht (show 1 ≤ k ∧ k ≤ 4 by omega) V.toNat K.1 0 s F B (by decide) (by first | decide | omega) (by first | decide | omega) h hf
    obtain ⟨F2, B2, y1, y2, y3⟩ := ih n (k + 1) _ F1 B1 (by first | decide | omega) (by first | decide | omega) (by first | decide | omega) (LNs_f h x2.2) x3
    rw [f_Study_findFaults_2, if_pos (show r32 k by unfold r32; omega), if_neg (show ¬ 4 < k by omega), x1, show d + 1 + 2 = d + 2 + 1 by omega, fkQ, if_pos (show k ≤ 4 by omega)]
    exact ⟨F2, B2, y1, GG_t x2 y2, y3⟩
/-- the lines of moment j alone -/
def LN1 (t V j : Int) (S : zV) (L : Int → Int → Int) (B : zB) : Prop := ∀ u, 0 ≤ u → u < V → B 9 t 5 u = lS S u (L u j) ∧ B 9 t 6 u = lT S u (L u j)
theorem Y_lt12 {c : Int} {T : Int → Int} (hK : 60000 ≤ K.1) (hS : SG V S) (ht : 0 ≤ t ∧ t < K.2 9) : ∀ (d N : Nat) (m : Int) (s : zQ) (F : zF) (B : zB), m + d = c → 0 ≤ m → d < N → SCl K V p S F B → F 9 t 0 = c → MXc V t S T L F B → FCl t s F B → (0 < m → LN1 t V (m - 1) S L B) → ∃ F' B', f_Study_lookThrough_12 K N m t p F B = some (0, F', B') ∧ stF t F F' ∧ stB t B B' ∧ F' 9 t 0 = c ∧ MXc V t S T L F' B' ∧ FCl t (if m = 0 then fmQ S L V (d - 1) 1 s else fmQ S L V d m s) F' B' := by
  have hV := hS.1
  intro d
  induction d with
  | zero =>
    intro N m s F B md m0 hN h h0 hM hF hL
    obtain ⟨n, rfl⟩ : ∃ q, N = q + 1 := ⟨N - 1, (by first | decide | omega)⟩
    have c8 := hM.2.2.1.1
    rw [f_Study_lookThrough_12, if_pos ht, h0, if_pos (show r32 m by unfold r32; omega), if_pos (show r32 c by unfold r32; omega), if_pos (show c ≤ m by omega), f_Study_lookThrough_55]
    refine ⟨F, B, rfl, stF_r, stB_r, h0, hM, ?_⟩
    split <;> exact hF
  | succ d ih =>
    intro N m s F B md m0 hN h h0 hM hF hL
    obtain ⟨n, rfl⟩ : ∃ q, N = q + 1 := ⟨N - 1, (by first | decide | omega)⟩
    have c8 := hM.2.2.1.1
    rw [h0] at c8
    rw [f_Study_lookThrough_12, if_pos ht, h0, if_pos (show r32 m by unfold r32; omega), if_pos (show r32 c by unfold r32; omega), if_neg (show ¬ c ≤ m by omega), hF.1, if_pos (show r32 s.1 by have := hF.2.1; unfold r32; omega)]
    by_cases z : 300 ≤ s.1
    · have z3 : s.1 = 300 := by have := hF.2.1; omega
      rw [if_pos z, f_Study_lookThrough_55]
      refine ⟨F, B, rfl, stF_r, stB_r, h0, hM, ?_⟩
      rw [fmQ_3 _ _ s z3, fmQ_3 _ _ s z3]
      split <;> exact hF
    rw [if_neg z]
    obtain ⟨M1, M2, M3, M4⟩ := id hM
    rw [h0] at M1 M2 M3 M4
    have hT : 0 ≤ T m ∧ T m ≤ 1000000000000 := by
      obtain ⟨u, i, u0, u1, i0, i1, e⟩ := (M3.2.2 (T m)).mp ⟨m, m0, (by first | decide | omega), rfl⟩
      have := ((hS.2 u u0 u1).2.2.1 i i0 i1).1
      omega
    obtain ⟨B1, x1, x2, x3, x4⟩ := C_tl2x (p := p) (T := T) (L := L) (F := F) hK hS ht (show 0 ≤ m ∧ m < 800 by omega) hT V.toNat K.1 0 B (by first | decide | omega) (by decide) (by first | decide | omega) h (M1 m m0 (by first | decide | omega)) (fun u' a b => ⟨M2 u' m a b m0 (by first | decide | omega), (M4 u' m a b m0 (by first | decide | omega)).1⟩)
    have x1' : f_Study_takeLines K t p m F B = some (0, F, B1) := x1
    have b1 : stB t B B1 := fun c y k x nn => x2 c y k x (by first | decide | omega)
    have hM1 : MXc V t S T L F B1 := MXc_f hM rfl (fun k x hk => x2 9 t k x (by first | decide | omega)) hV.2
    have hF1 : FCl t s F B1 := ⟨hF.1, hF.2.1, fun i i0 i1 => by rw [x2 9 t 260 i (by first | decide | omega), x2 9 t 261 i (by first | decide | omega), x2 9 t 262 i (by first | decide | omega), x2 9 t 263 i (by first | decide | omega)]; exact hF.2.2 i i0 i1⟩
    have l1 : LN1 t V m S L B1 := fun u u0 u1 => ⟨(x4 u u0 u1).1, (x4 u u0 u1).2.1⟩
    rw [x1', zb_s]
    by_cases m1 : m ≤ 0
    · have e0 : m = 0 := by omega
      rw [if_pos m1, f_Study_lookThrough_49]
      obtain ⟨F2, B2, y1, y2, y3, y4, y5, y6⟩ := ih n (m + 1) s F B1 (by first | decide | omega) (by first | decide | omega) (by first | decide | omega) (SCl_f h stF_r b1) h0 hM1 hF1 (fun _ => by rw [show m + 1 - 1 = m by omega]; exact l1)
      refine ⟨F2, B2, y1, y2, stB_t b1 y3, y4, y5, ?_⟩
      rw [if_neg (show ¬ m + 1 = 0 by omega)] at y6
      rw [if_pos e0, show d + 1 - 1 = d by omega]
      rw [e0] at y6
      exact y6
    · rw [if_neg m1, if_pos h.1, h.2.1]
      have ls : LNs t V m S L B1 := fun u u0 u1 => by
        obtain ⟨a5, a6, a7, a8, a9⟩ := x4 u u0 u1
        obtain ⟨o5, o6⟩ := hL (by first | decide | omega) u u0 u1
        obtain ⟨i1, i2⟩ := (M4 u m u0 u1 m0 (by first | decide | omega)).1
        obtain ⟨i3, i4⟩ := (M4 u (m - 1) u0 u1 (by first | decide | omega) (by first | decide | omega)).1
        have bg := LI_b hS M3 M4 u0 u1 (show 1 ≤ m by omega) (show m < c by omega)
        refine ⟨⟨a5, a6, by rw [a7, o5], by rw [a8, o6], ?_⟩, lTS_b hS u0 u1 i1 i2, lTS_b hS u0 u1 i3 i4⟩
        rw [a9]
        by_cases q : L u m = L u (m - 1)
        · rw [if_pos q, if_neg (fun k => bg.mp k q)]
        · rw [if_neg q, if_pos (bg.mpr q)]
      obtain ⟨F2, B2, y1, y2, y3⟩ := Y_ff2 (K := K) (m := m) (by first | decide | omega) hV ht 4 K.1 1 s F B1 (by decide) (by decide) (by first | decide | omega) ls hF1
      have y1' : f_Study_findFaults K t V m F B1 = some (0, F2, B2) := y1
      have f2 : stF t F F2 := fun c y k nn => y2.1 c y k (by first | decide | omega)
      have b2 : stB t B1 B2 := fun c y k x nn => y2.2 c y k x (by first | decide | omega)
      have h02 : F2 9 t 0 = c := by rw [y2.1 9 t 0 (by first | decide | omega)]; exact h0
      rw [y1', zb_s, f_Study_lookThrough_49]
      obtain ⟨F3, B3, w1, w2, w3, w4, w5, w6⟩ := ih n (m + 1) _ F2 B2 (by first | decide | omega) (by first | decide | omega) (by first | decide | omega) (SCl_f (SCl_f h stF_r b1) f2 b2) h02 (MXc_f hM1 (by rw [h02, h0]) (fun k x hk => y2.2 9 t k x (by first | decide | omega)) hV.2) y3 (fun _ => by
        rw [show m + 1 - 1 = m by omega]
        exact fun u u0 u1 => by rw [y2.2 9 t 5 u (by first | decide | omega), y2.2 9 t 6 u (by first | decide | omega)]; exact l1 u u0 u1)
      refine ⟨F3, B3, w1, stF_t f2 w2, stB_t b1 (stB_t b2 w3), w4, w5, ?_⟩
      rw [if_neg (show ¬ m + 1 = 0 by omega)] at w6
      rw [if_neg (show ¬ m = 0 by omega), fmQ]
      exact w6
theorem C_lookx {F : zF} {B : zB} (hK : 60000 ≤ K.1) (hS : SG V S) (h : SCl K V p S F B) (ht : 0 ≤ t ∧ t < K.2 9) : ∃ F' B', f_Study_lookThrough K t p F B = some (0, F', B') ∧ stF t F F' ∧ stB t B B' ∧ STX V t S F' B' := by
  obtain ⟨F1, B1, T, L, x1, x2, x3, x4⟩ := C_fmox hK hS h ht
  have c8 := x4.2.2.1.1
  have f2 : stF t F1 (zup3 F1 9 t 2 0) := stF_w (by first | decide | omega)
  have e0 : (zup3 F1 9 t 2 0) 9 t 0 = F1 9 t 0 := by rw [zup3_v, if_neg (by first | decide | omega)]
  obtain ⟨F2, B2, y1, y2, y3, y4, y5, y6⟩ := Y_lt12 (c := F1 9 t 0) (p := p) (L := L) (T := T) hK hS ht (F1 9 t 0).toNat K.1 0 (0, fun _ _ => 0) (zup3 F1 9 t 2 0) B1 (by first | decide | omega) (by decide) (by first | decide | omega) (SCl_f (SCl_f h x2 x3) f2 stB_r) e0 (MXc_f x4 e0 (fun _ _ _ => rfl) hS.1.2) ⟨by rw [zup3_v, if_pos ⟨rfl, rfl, rfl⟩], by decide, fun i i0 i1 => by have i1 : i < 0 := i1; omega⟩ (fun z => (by first | decide | omega))
  unfold f_Study_lookThrough
  rw [if_pos ht, x1, zb_s, y1]
  refine ⟨F2, B2, rfl, stF_t x2 (stF_t f2 y2), stB_t x3 y3, T, L, y5, ?_⟩
  rw [if_pos rfl] at y6
  unfold flQ
  rw [y4, show (F1 9 t 0 - 1).toNat = (F1 9 t 0).toNat - 1 by omega]
  exact y6
end
end
