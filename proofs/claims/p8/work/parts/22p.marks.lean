section
/-! ===== marks, on both sides ===== -/
def mkv (b : Int) : Int := if b = 126 then 1 else if b = 40 then 2 else if b = 41 then 4 else if b = 39 then 8 else if b = 94 then 16 else if b = 45 then 32 else if b = 37 then 64 else 0
theorem mkm_v {B : zB} {j : Int} : mkm B j = if B 14 0 7 j = 5 then mkv (B 14 0 9 j) else 0 := rfl
theorem mkv_ix : ∀ c : Fin 256, (idxS 0 (zi2b (c.val : Int)) 102 0 = -1 ∧ mkv (c.val : Int) = 0) ∨ (0 ≤ idxS 0 (zi2b (c.val : Int)) 102 0 ∧ idxS 0 (zi2b (c.val : Int)) 102 0 ≤ 6 ∧ mkv (c.val : Int) = 2 ^ (idxS 0 (zi2b (c.val : Int)) 102 0).toNat ∧ 1 ≤ mkv (c.val : Int) ∧ mkv (c.val : Int) ≤ 64) := by decide +kernel
theorem mkv_i {b : Int} (h0 : 0 ≤ b) (h1 : b < 256) : (idxS 0 (zi2b b) 102 0 = -1 ∧ mkv b = 0) ∨ (0 ≤ idxS 0 (zi2b b) 102 0 ∧ idxS 0 (zi2b b) 102 0 ≤ 6 ∧ mkv b = 2 ^ (idxS 0 (zi2b b) 102 0).toNat ∧ 1 ≤ mkv b ∧ mkv b ≤ 64) := by
  have i := mkv_ix ⟨b.toNat, (by first | decide | omega)⟩
  rw [show (((⟨b.toNat, (by first | decide | omega)⟩ : Fin 256).val : Nat) : Int) = b by show ((b.toNat : Nat) : Int) = b; omega] at i
  exact i
def mcnt (m : Int) : Int := m % 2 + m / 2 % 2 + m / 4 % 2 + m / 8 % 2 + m / 16 % 2 + m / 32 % 2 + m / 64 % 2
theorem mk_bits : ∀ m : Fin 128, ∀ i : Fin 7, (zand (zshr (m.val : Int) (i.val : Int)) 1 = 0 ↔ zand (m.val : Int) (2 ^ i.val) ≤ 0) ∧ (zand (zshr (m.val : Int) (i.val : Int)) 1 = 0 → zor (m.val : Int) (zshl 1 (i.val : Int)) = zor (m.val : Int) (2 ^ i.val) ∧ 0 ≤ zor (m.val : Int) (2 ^ i.val) ∧ zor (m.val : Int) (2 ^ i.val) < 128 ∧ mcnt (zor (m.val : Int) (2 ^ i.val)) = mcnt (m.val : Int) + 1) ∧ (mcnt (m.val : Int) = 7 → ¬ zand (m.val : Int) (2 ^ i.val) ≤ 0) := by decide +kernel
theorem mk_b {m i : Int} (m0 : 0 ≤ m) (m1 : m < 128) (i0 : 0 ≤ i) (i1 : i ≤ 6) : (zand (zshr m i) 1 = 0 ↔ zand m (2 ^ i.toNat) ≤ 0) ∧ (zand (zshr m i) 1 = 0 → zor m (zshl 1 i) = zor m (2 ^ i.toNat) ∧ 0 ≤ zor m (2 ^ i.toNat) ∧ zor m (2 ^ i.toNat) < 128 ∧ mcnt (zor m (2 ^ i.toNat)) = mcnt m + 1) ∧ (mcnt m = 7 → ¬ zand m (2 ^ i.toNat) ≤ 0) := by
  have h := mk_bits ⟨m.toNat, (by first | decide | omega)⟩ ⟨i.toNat, (by first | decide | omega)⟩
  rw [show (((⟨m.toNat, (by first | decide | omega)⟩ : Fin 128).val : Nat) : Int) = m by show ((m.toNat : Nat) : Int) = m; omega, show (((⟨i.toNat, (by first | decide | omega)⟩ : Fin 7).val : Nat) : Int) = i by show ((i.toNat : Nat) : Int) = i; omega] at h
  exact h
/-- the reference has told a mark that comes twice; the class stands before it and will refuse it -/
def DEL (N : Int) (F : zF) (B : zB) (Fm : zF) (Bm : zB) : Prop := F 3 0 11 = 0 ∧ F 3 0 21 = 0 ∧ (∃ j, CUR F B Bm N j) ∧ F 10 0 0 = 5 ∧ ¬ mkv (F 10 0 2) = 0 ∧ Fm 14 0 17 = 2 ∧ Fm 14 0 18 = F 10 0 1
theorem P_marks {K : zK} {Km : Nat} {N x fr : Int} (hx : 0 ≤ x ∧ x < 3000) (hf : 0 ≤ fr ∧ fr ≤ 3000) : ∀ {q : Nat} {m m' : Nat} {l j : Int} {F : zF} {B : zB} {Fm : zF} {Bm : zB}, l = 7 - q → 0 ≤ l → q < m → q + 1 < m' → EV K Km N B Bm → PS N j F B Fm Bm → B 3 0 7 x = Bm 14 0 34 fr → 0 ≤ B 3 0 7 x ∧ B 3 0 7 x < 128 → mcnt (B 3 0 7 x) = l → zP (f_Parser_takeMarks_2 K m l 0 x F B) (f_M_marks_7 Km m' fr Fm Bm) (fun _ F' B' _ Fm' Bm' => fF F F' ∧ fG Fm Fm' ∧ fX [7] x (F 3 0 15) B B' ∧ fH fr Bm Bm' ∧ (∀ k, k ≤ 33 → Bm' 14 0 k = Bm 14 0 k) ∧ B' 3 0 7 x = Bm' 14 0 34 fr ∧ (0 ≤ B' 3 0 7 x ∧ B' 3 0 7 x < 128) ∧ F' 3 0 14 = F 3 0 14 ∧ F' 3 0 15 = F 3 0 15 ∧ F' 3 0 18 = F 3 0 18 ∧ ((∃ j', j ≤ j' ∧ PS N j' F' B' Fm' Bm') ∨ DEL N F' B' Fm' Bm')) := by
  intro q
  induction q with
  | zero =>
    intro m m' l j F B Fm Bm hl l0 hm hm' hE hS h7 hb hc
    obtain ⟨m, rfl⟩ : ∃ y, m = y + 1 := ⟨m - 1, (by first | decide | omega)⟩
    obtain ⟨m', rfl⟩ : ∃ y, m' = y + 1 + 1 := ⟨m' - 2, (by first | decide | omega)⟩
    have hg := hS.2.2.2.1
    have hX := PS_CX hE hS
    have hM := PS_MX hE hS
    have h16 := hM.1
    have h0 := hM.2.1
    unfold f_Parser_takeMarks_2 f_M_marks_7
    rw [C_slen (by decide) (by decide), L_good hg]
    simp only [zb_s]
    rw [show zsl 0 = 7 by decide, if_pos (show r32 l by omega), if_pos (show r32 7 by decide), if_pos (show 7 ≤ l by omega), if_pos (show r32 1 by decide), if_neg (show ¬ (1 : Int) = 0 by decide)]
    simp only [zb_s, L_markHere hM]
    unfold f_Parser_takeMarks_82
    have tk := hE.1.2.2 j hS.2.1.1.1 hS.2.1.1.2
    by_cases k5 : Bm 14 0 7 j = 5
    · have v5 := hM.2.2.2.1 (Or.inl k5)
      have t5 := tk.2.2.2.2.2.2.2.1 k5
      have eM : mkm Bm j = mkv (Bm 14 0 9 j) := by rw [mkm_v, if_pos k5]
      rcases mkv_i (b := Bm 14 0 9 j) (by first | decide | omega) (by first | decide | omega) with ⟨i1, i2⟩ | ⟨i1, i2, i3, pos⟩
      · rw [eM, i2, if_pos (by decide), if_pos (by decide)]
        unfold f_M_marks_68
        exact zP_s ⟨fF_r, fG_r, fX_r, fH_r, fun _ _ => rfl, h7, hb, rfl, rfl, rfl, Or.inl ⟨j, Int.le_refl _, hS⟩⟩
      · have b := mk_b (m := B 3 0 7 x) (i := idxS 0 (zi2b (Bm 14 0 9 j)) 102 0) hb.1 hb.2 i1 i2
        have hz := b.2.2 (by first | decide | omega)
        rw [eM, if_pos (by first | decide | omega), if_neg (by first | decide | omega), if_pos (by first | decide | omega)]
        rw [← h7, i3, if_pos (zand_r32 _ _), if_neg hz, L_wrong hg hM]
        simp only [zb_s]
        have er := PS_err2 hE hS
        unfold f_M_marks_7
        rw [L_goodB er.2]
        simp only [zb_s]
        rw [if_pos (by decide), if_pos trivial]
        unfold f_M_marks_68
        refine zP_s ⟨fF_r, fG_e fG_r, fX_r, fH_r, fun _ _ => rfl, h7, hb, rfl, rfl, rfl, Or.inr ⟨hS.1, hS.2.2.2.2.1, ⟨j, hS.2.1⟩, ?_, ?_, ?_, ?_⟩⟩
        · rw [hS.2.1.2.1]; exact k5
        · rw [hS.2.1.2.2.2.1, t5.1]; omega
        · unfold errM wr; rw [if_neg (by first | decide | omega)]; simp [zup3_v]
        · unfold errM; simp [zup3_v]; rw [h16]; exact hS.2.1.2.2.1.symm
    · have eM : mkm Bm j = 0 := by rw [mkm_v, if_neg k5]
      rw [eM, if_pos (by decide), if_pos (by decide)]
      unfold f_M_marks_68
      exact zP_s ⟨fF_r, fG_r, fX_r, fH_r, fun _ _ => rfl, h7, hb, rfl, rfl, rfl, Or.inl ⟨j, Int.le_refl _, hS⟩⟩
  | succ q ih =>
    intro m m' l j F B Fm Bm hl l0 hm hm' hE hS h7 hb hc
    obtain ⟨m, rfl⟩ : ∃ y, m = y + 1 := ⟨m - 1, (by first | decide | omega)⟩
    obtain ⟨m', rfl⟩ : ∃ y, m' = y + 1 + 1 := ⟨m' - 2, (by first | decide | omega)⟩
    have hg := hS.2.2.2.1
    have hX := PS_CX hE hS
    have hM := PS_MX hE hS
    have k3 := hE.2.2.2.1
    have k10 := hE.2.2.2.2.1
    have k1 := hE.2.2.2.2.2.1
    have h16 := hM.1
    have h0 := hM.2.1
    have hkk := hM.2.2.1
    have e11 := hS.1
    have ek := hS.2.1.2.1
    have ev := hS.2.1.2.2.2.1
    unfold f_Parser_takeMarks_2 f_M_marks_7
    rw [C_slen (by decide) (by decide), L_good hg]
    simp only [zb_s]
    rw [show zsl 0 = 7 by decide, if_pos (show r32 l by omega), if_pos (show r32 7 by decide), if_neg (show ¬ 7 ≤ l by omega), if_pos ⟨Int.le_refl _, k3⟩, e11, if_pos ⟨Int.le_refl _, k10⟩, if_pos (show r32 (F 10 0 0) by omega), if_pos (show r32 1 by decide), if_neg (show ¬ (1 : Int) = 0 by decide)]
    simp only [zb_s, L_markHere hM]
    have tk := hE.1.2.2 j hS.2.1.1.1 hS.2.1.1.2
    by_cases k5 : Bm 14 0 7 j = 5
    · have v5 := hM.2.2.2.1 (Or.inl k5)
      have t5 := tk.2.2.2.2.2.2.2.1 k5
      have ev5 : F 10 0 2 = Bm 14 0 9 j := by rw [ev]; exact t5.1
      have eM : mkm Bm j = mkv (Bm 14 0 9 j) := by rw [mkm_v, if_pos k5]
      rw [if_pos (show F 10 0 0 = 5 by omega), ev5, zi2c_b (by first | decide | omega) (by first | decide | omega), C_indexOf (by first | decide | omega) (by decide) (by decide) (by decide) (by decide) (by first | decide | omega) (by first | decide | omega)]
      simp only [zb_s]
      rcases mkv_i (b := Bm 14 0 9 j) (by first | decide | omega) (by first | decide | omega) with ⟨i1, i2⟩ | ⟨i1, i2, i3, pos⟩
      · rw [eM, i2, i1, if_pos (show r32 (-1) by decide), if_pos (show (-1 : Int) < 0 by decide), if_pos (show r32 0 by decide), if_pos (show (0 : Int) ≤ 0 by decide)]
        unfold f_Parser_takeMarks_56 f_M_marks_68
        exact zP_s ⟨fF_r, fG_r, fX_r, fH_r, fun _ _ => rfl, h7, hb, rfl, rfl, rfl, Or.inl ⟨j, Int.le_refl _, hS⟩⟩
      · have b := mk_b (m := B 3 0 7 x) (i := idxS 0 (zi2b (Bm 14 0 9 j)) 102 0) hb.1 hb.2 i1 i2
        rw [if_pos (show r32 (idxS 0 (zi2b (Bm 14 0 9 j)) 102 0) by omega), if_neg (show ¬ idxS 0 (zi2b (Bm 14 0 9 j)) 102 0 < 0 by omega), if_pos hx, if_pos (zand_r32 _ _), eM, if_pos (show r32 (mkv (Bm 14 0 9 j)) by omega), if_neg (show ¬ mkv (Bm 14 0 9 j) ≤ 0 by omega), if_pos (show 0 ≤ fr ∧ fr < 3001 by omega)]
        rw [← h7, i3, if_pos (zand_r32 _ _)]
        by_cases z : zand (zshr (B 3 0 7 x) (idxS 0 (zi2b (Bm 14 0 9 j)) 102 0)) 1 = 0
        · obtain ⟨c1, c2, c3, c4⟩ := b.2.1 z
          rw [if_pos z, if_pos (b.1.mp z), e11, if_pos ⟨Int.le_refl _, k10⟩, C_adv (CX_b hX), advF_b, c1, h16]
          simp only [zb_s]
          have hfX : fX [7] x (F 3 0 15) B (zup4 B 3 0 7 x (zor (B 3 0 7 x) (2 ^ (idxS 0 (zi2b (Bm 14 0 9 j)) 102 0).toNat))) := fX_u fX_r (Or.inl ⟨by decide, rfl⟩)
          have hfH : fH fr Bm (zup4 Bm 14 0 34 fr (zor (B 3 0 7 x) (2 ^ (idxS 0 (zi2b (Bm 14 0 9 j)) 102 0).toNat))) := fH_u fH_r (by decide) (by decide) (Int.le_refl _)
          have hfB := fX_B (lo := x) hfX (by decide) (Int.le_refl _)
          have hS1 := PS_f (PS_step hE hS (by first | decide | omega)) hfB hfH
          refine zP_m (ih (l := l + 1) (j := j + 1) (by first | decide | omega) (by first | decide | omega) (by first | decide | omega) (by first | decide | omega) (EV_f hE hfB hfH) hS1 ?_ ?_ ?_) (fun r F' B' r' Fm' Bm' hh => ?_)
          · simp [zup4_v]
          · simp [zup4_v]; omega
          · simp [zup4_v]; omega
          · obtain ⟨g1, g2, g3, g4, g5, g6, g7, g8, g9, g10, g11⟩ := hh
            rw [advF_o (by decide)] at g3 g8 g9 g10
            refine ⟨fF_t (fF_a fF_r) g1, fG_t (fG_u fG_r (by decide) (by decide)) g2, fX_t hfX g3, fH_t hfH g4, fun k hk => ?_, g6, g7, g8, g9, g10, ?_⟩
            · rw [g5 k hk]; funext y; rw [zup4_v, if_neg (fun z => by have := z.2.2.1; omega)]
            · rcases g11 with ⟨j', a, b⟩ | d
              · exact Or.inl ⟨j', (by first | decide | omega), b⟩
              · exact Or.inr d
        · rw [if_neg z, if_neg (fun w => z (b.1.mpr w)), L_wrong hg hM]
          simp only [zb_s]
          have er := PS_err2 hE hS
          unfold f_M_marks_7
          rw [L_goodB er.2]
          simp only [zb_s]
          rw [if_pos (by decide), if_pos trivial]
          unfold f_M_marks_68 f_Parser_takeMarks_56
          refine zP_s ⟨fF_r, fG_e fG_r, fX_r, fH_r, fun _ _ => rfl, h7, hb, rfl, rfl, rfl, Or.inr ⟨hS.1, hS.2.2.2.2.1, ⟨j, hS.2.1⟩, ?_, ?_, ?_, ?_⟩⟩
          · rw [hS.2.1.2.1]; exact k5
          · rw [ev5]; omega
          · unfold errM wr; rw [if_neg (by first | decide | omega)]; simp [zup3_v]
          · unfold errM; simp [zup3_v]; rw [h16]; exact hS.2.1.2.2.1.symm
    · have eM : mkm Bm j = 0 := by rw [mkm_v, if_neg k5]
      rw [eM, if_neg (show ¬ F 10 0 0 = 5 by omega), if_pos (show r32 0 by decide), if_pos (show (0 : Int) ≤ 0 by decide)]
      unfold f_Parser_takeMarks_82 f_M_marks_68
      exact zP_s ⟨fF_r, fG_r, fX_r, fH_r, fun _ _ => rfl, h7, hb, rfl, rfl, rfl, Or.inl ⟨j, Int.le_refl _, hS⟩⟩
end
