section
/-! ===== blocks and fractions, on both sides ===== -/
def OKB (L : Int) (d : Nat) (N j x : Int) (F : zF) (F' : zF) (B' : zB) (Fm' : zF) (Bm' : zB) : Prop := ∃ j' n, j + 2 ≤ j' ∧ PS N j' F' B' Fm' Bm' ∧ Bm' 14 0 30 j = j' - 1 ∧ F' 3 0 18 = F 3 0 18 ∧ (F 3 0 14 ≤ F' 3 0 14 ∧ F' 3 0 14 - F 3 0 14 ≤ j' - j - 2) ∧ F 3 0 15 ≤ F' 3 0 15 ∧ SLR L (d - 1) n (B' 3 0 4 x) (j + 1) (j' - 1) (F 3 0 14) (F' 3 0 14) (F 3 0 15) (F' 3 0 15) B' Bm' ∧ 1 ≤ d
def BPO (L : Int) (d : Nat) (N j x : Int) (F : zF) (B : zB) (Fm : zF) (Bm : zB) (r : Int) (F' : zF) (B' : zB) (Fm' : zF) (Bm' : zB) : Prop := fF F F' ∧ fG Fm Fm' ∧ fK 4 x (F 3 0 14) (F 3 0 15) B B' ∧ fH j Bm Bm' ∧ (r = 1 ∧ OKB L d N j x F F' B' Fm' Bm' ∨ r = 0 ∧ ERR F' Fm')
def BlkSim (L : Int) (K : zK) (Km : Nat) (N : Int) (d : Nat) (oC : Int → Int → zF → zB → zO) (oM : zF → zB → zO) : Prop := ∀ {x j : Int} {F : zF} {B : zB} {Fm : zF} {Bm : zB}, 0 ≤ x → x < F 3 0 14 → F 3 0 14 ≤ j → EV K Km N B Bm → PS N j F B Fm Bm → F 3 0 18 + d = 8 → (F 3 0 20 = lenV (Fm 14 0 20) (Fm 14 0 21) ∧ pw2 (Fm 14 0 20) ∧ 0 ≤ Fm 14 0 21 ∧ Fm 14 0 21 ≤ 2) → LT L F B Fm Bm → B 3 0 4 x = -1 → zP (oC 0 x F B) (oM Fm Bm) (fun r F' B' _ Fm' Bm' => BPO L d N j x F B Fm Bm r F' B' Fm' Bm')
/-- a block in a bad state: nothing changes -/
def BlkBad (oM : zF → zB → zO) : Prop := ∀ {Fm : zF} {Bm : zB}, bad Fm → oM Fm Bm = some (0, Fm, Bm)
theorem L_blockB {om : oT_P} {Km : Nat} (hK : 3002 ≤ Km) : BlkBad (fun F B => fb_M_block om Km F B) := by
  intro Fm Bm hb
  obtain ⟨m, rfl⟩ : ∃ y, Km = y + 1 := ⟨Km - 1, (by first | decide | omega)⟩
  show fb_M_block om (m + 1) Fm Bm = _
  unfold fb_M_block
  rw [L_openingB hb]
  simp only [zb_s]
  unfold f_M_block_11 f_M_block_34
  rw [L_goodB hb]
  simp only [zb_s]
  rw [if_pos (by decide), if_pos trivial, L_closingB hb]
  rfl
theorem P_block {L : Int} {d : Nat} {K : zK} {Km : Nat} {N : Int} {o o' : oT_CP} {om : oT_P} (ho : ∀ l0 l1 F B, o.2.1 l0 l1 F B = fb_Parser_takeMusic o' K l0 l1 F B) (hI : ∀ d', d = d' + 1 → ItemSim L K Km N d' o'.2.2.1 om.2.1) (hB : ItemBad K Km N om.2.1) : BlkSim L K Km N d (fun l0 l1 F B => fb_Parser_takeBlock o K l0 l1 F B) (fun F B => fb_M_block om Km F B) := by
  intro x j F B Fm Bm x0 x1 hit hE hS hd hpw hLT hcell
  have hg := hS.2.2.2.1
  have hX := PS_CX hE hS
  have hM := PS_MX hE hS
  have jj := hS.2.1.1
  have nn := hE.1.2.1
  have hdd := hS.2.2.2.2.2.1
  have k3 := hE.2.2.2.1
  have k1 := hE.2.2.2.2.2.1
  have km := hE.2.2.2.2.2.2
  show zP (fb_Parser_takeBlock o K 0 x F B) (fb_M_block om Km Fm Bm) _
  unfold fb_Parser_takeBlock f_Parser_takeBlock_30 f_Parser_takeBlock_31 fb_M_block
  rw [if_pos ⟨(by first | decide | omega), k3⟩, C_takeOpening hX (by decide) hdd.2, L_opening hg hM (by decide) (by first | decide | omega), PS_sg hE hS, hM.1]
  have lpB : ∀ {F : zF} {B : zB}, bad F → f_M_block_11 om Km Km j F B = some (0, F, B) := by
    intro F B hb
    obtain ⟨m, rfl⟩ : ∃ y, Km = y + 1 := ⟨Km - 1, (by first | decide | omega)⟩
    unfold f_M_block_11 f_M_block_34
    rw [L_goodB hb]
    simp only [zb_s]
    rw [if_pos (by decide), if_pos trivial, L_closingB hb]
    rfl
  by_cases z : sgm Bm j 123 = 0
  · have er := PS_err2 hE hS
    rw [if_pos z, if_pos z]
    simp only [zb_s]
    rw [if_pos (by decide), if_pos trivial, if_pos (by decide), lpB er.2]
    exact zP_s ⟨fF_e fF_r, fG_e fG_r, fK_r, fH_r, Or.inr ⟨rfl, er⟩⟩
  · have z' := Decidable.not_not.mp (mt sgm_0.mpr z)
    rw [if_neg z, if_neg z]
    by_cases d8 : F 3 0 18 = 8
    · have er := PS_err (s := 3) (s' := 3) hE hS (by rw [if_neg (by first | decide | omega)]) (by decide)
      rw [if_pos d8, if_pos (by first | decide | omega)]
      simp only [zb_s]
      rw [if_pos (by decide), if_pos trivial, if_pos (by decide), lpB er.2]
      exact zP_s ⟨fF_e fF_r, fG_e fG_r, fK_r, fH_r, Or.inr ⟨rfl, er⟩⟩
    · rw [if_neg d8, if_neg (by first | decide | omega)]
      simp only [zb_s]
      obtain ⟨d', rfl⟩ : ∃ y, d = y + 1 := ⟨d - 1, (by first | decide | omega)⟩
      have hS1 := PS_step hE (PS_d (d := F 3 0 18 + 1) hS (by first | decide | omega) hpw) (by first | decide | omega)
      have e19 : Fm 14 0 19 = F 3 0 18 := hdd.1.symm
      rw [if_pos (show r32 1 by decide), if_neg (show ¬ (1 : Int) = 0 by decide), ho, e19]
      unfold fb_Parser_takeMusic
      have a14 : (advF (zup3 F 3 0 18 (F 3 0 18 + 1)) B) 3 0 14 = F 3 0 14 := by rw [advF_o (by decide)]; simp [zup3_v]
      have a15 : (advF (zup3 F 3 0 18 (F 3 0 18 + 1)) B) 3 0 15 = F 3 0 15 := by rw [advF_o (by decide)]; simp [zup3_v]
      have a18 : (advF (zup3 F 3 0 18 (F 3 0 18 + 1)) B) 3 0 18 = F 3 0 18 + 1 := by rw [advF_o (by decide)]; simp [zup3_v]
      have gF : fF F (advF (zup3 F 3 0 18 (F 3 0 18 + 1)) B) := fF_a (fF_u fF_r (by decide))
      have gG : fG Fm (zup3 (zup3 Fm 14 0 19 (F 3 0 18 + 1)) 14 0 16 (j + 1)) := fG_u (fG_u fG_r (by decide) (by decide)) (by decide) (by decide)
      have hLT1 := LT_k (k0 := 0) (x0 := 0) (lo := 0) (pl := 0) (fr := 0) (j := 0) hLT gF gG fK_r (by decide) (fJ_H fH_r (Int.le_refl _))
      refine zP_m (P_music (o := o') (lp := fun n F B => f_M_block_11 om Km n j F B) (c := 125) (fr := j) (hI d' rfl) hB (Or.inl rfl) jj.1 ?_ ?_ ?_ (q := 3001) (m := K.1) (m' := Km) (i := 0) (last := -1) (par := x) (j := j + 1) (x0 := x) (k0 := 4) (by first | decide | omega) (by first | decide | omega) (by first | decide | omega) (by first | decide | omega) (by first | decide | omega) (by first | decide | omega) (Or.inl ⟨rfl, rfl, rfl⟩) x0 (by first | decide | omega) (by first | decide | omega) (by first | decide | omega) hE hS1 (by first | decide | omega) (by first | decide | omega) hLT1 hcell) (fun r F' B' r' Fm' Bm' hh => ?_)
      · intro n F B
        rfl
      · intro F B
        rfl
      · intro F B hX
        show (if r32 1 then (if (1 : Int) = 0 then _ else zbind (f_Parser_takeClosing K 0 125 F B) _) else none) = _
        rw [if_pos (by decide), if_neg (by decide), C_takeClosing hX (by decide)]
        by_cases w : sgn F 125 = 0
        · rw [if_pos w]; rfl
        · rw [if_neg w]; rfl
      · obtain ⟨g1, g2, g3, g4, g5⟩ := hh
        rw [a14, a15] at g3
        refine ⟨fF_t gF g1, fG_t gG g2, g3, fJ_fH g4 (by first | decide | omega), ?_⟩
        rcases g5 with ⟨rfl, j', n, v1, v2, v3, v4, v5, v6, v7⟩ | er
        · rw [a14, a15] at v7
          exact Or.inl ⟨rfl, j', n, (by first | decide | omega), v2, v3, (by first | decide | omega), (by first | decide | omega), (by first | decide | omega), v7, (by first | decide | omega)⟩
        · exact Or.inr er
theorem nm_of {K : zK} {Km : Nat} {N j : Int} {F : zF} {B : zB} {Fm : zF} {Bm : zB} (hE : EV K Km N B Bm) (hS : PS N j F B Fm Bm) (k : Bm 14 0 7 j = 3) : F 10 0 0 = 3 ∧ F 10 0 2 = Bm 14 0 9 j := by
  have tk := hE.1.2.2 j hS.2.1.1.1 hS.2.1.1.2
  exact ⟨hS.2.1.2.1.trans k, hS.2.1.2.2.2.1.trans (tk.2.2.2.2.2.1 k).1⟩
/-- a number is taken, or refused, alike -/
theorem P_num {K : zK} {Km : Nat} {N j lo hi : Int} {F : zF} {B : zB} {Fm : zF} {Bm : zB} (hE : EV K Km N B Bm) (hS : PS N j F B Fm Bm) (hl : r32 lo) (hh : r32 hi) : (Bm 14 0 7 j = 3 ∧ lo ≤ Bm 14 0 9 j ∧ Bm 14 0 9 j ≤ hi ∧ f_Parser_takeNumber K 0 lo hi 0 F B = some (1, advF (zup3 F 3 0 19 (Bm 14 0 9 j)) B, B) ∧ f_M_number Km lo hi 0 Fm Bm = some (Bm 14 0 9 j, zup3 Fm 14 0 16 (j + 1), Bm) ∧ PS N (j + 1) (advF (zup3 F 3 0 19 (Bm 14 0 9 j)) B) B (zup3 Fm 14 0 16 (j + 1)) Bm) ∨ (∃ s s' v, f_Parser_takeNumber K 0 lo hi 0 F B = some (0, refF F s, B) ∧ f_M_number Km lo hi 0 Fm Bm = some (v, errM Fm Bm s', Bm) ∧ ERR (refF F s) (errM Fm Bm s')) := by
  have hg := hS.2.2.2.1
  have cn := C_takeNumber (lo := lo) (hi := hi) (pw := 0) (PS_CX hE hS) hl hh (Or.inl rfl)
  have mn := L_number (K := Km) (lo := lo) (hi := hi) (pw := 0) hg (PS_MX hE hS) hl hh (Or.inl rfl)
  by_cases k : Bm 14 0 7 j = 3
  · obtain ⟨e0, e2⟩ := nm_of hE hS k
    by_cases n : nOK (Bm 14 0 9 j) lo hi 0
    · left
      have c := cn.1 e0 (by rw [e2]; exact n)
      rw [e2] at c
      exact ⟨k, n.1, n.2.1, c, mn.1 k n, PS_step hE (PS_u (k := 19) hS (by decide)) (by first | decide | omega)⟩
    · right
      exact ⟨5, 5, _, cn.2.1 e0 (by rw [e2]; exact n), mn.2.1 k n, PS_err hE hS (by rw [if_neg (by first | decide | omega)]) (by decide)⟩
  · right
    have e0 := hS.2.1.2.1
    exact ⟨2, wr Bm j, 0, cn.2.2 (by rw [e0]; exact k), mn.2.2 k, PS_err2 hE hS⟩
/-- a sign is taken, or refused, alike -/
theorem P_sig {K : zK} {Km : Nat} {N j c : Int} {F : zF} {B : zB} {Fm : zF} {Bm : zB} (hE : EV K Km N B Bm) (hS : PS N j F B Fm Bm) (hc : r32 c) : (sgAt Bm j c ∧ f_Parser_takeSign K 0 c F B = some (1, advF F B, B) ∧ f_M_need Km c Fm Bm = some (0, zup3 Fm 14 0 16 (j + 1), Bm) ∧ PS N (j + 1) (advF F B) B (zup3 Fm 14 0 16 (j + 1)) Bm) ∨ (f_Parser_takeSign K 0 c F B = some (0, refF F 2, B) ∧ f_M_need Km c Fm Bm = some (0, errM Fm Bm (wr Bm j), Bm) ∧ ERR (refF F 2) (errM Fm Bm (wr Bm j))) := by
  have hg := hS.2.2.2.1
  rw [C_takeSign (PS_CX hE hS) hc, L_need hg (PS_MX hE hS) hc, PS_sg hE hS]
  by_cases z : sgm Bm j c = 0
  · right
    rw [if_pos z, if_pos z]
    exact ⟨rfl, rfl, PS_err2 hE hS⟩
  · left
    have z' := Decidable.not_not.mp (mt sgm_0.mpr z)
    rw [if_neg z, if_neg z]
    exact ⟨z', rfl, rfl, PS_step hE hS (by first | decide | omega)⟩
theorem P_frac {K : zK} {Km : Nat} {N j x lo hi : Int} {F : zF} {B : zB} {Fm : zF} {Bm : zB} {kC kM : Int → zF → zB → zO} {Q : Int → zF → zB → Int → zF → zB → Prop} (hx : 0 ≤ x ∧ x < 3000) (hE : EV K Km N B Bm) (hS : PS N j F B Fm Bm) (hl : r32 lo) (hh : r32 hi) (ok : ∀ F' B' Fm' r', fF F F' → fG Fm Fm' → fX [2, 3] x (F 3 0 15) B B' → PS N (j + 3) F' B' Fm' Bm → nmAt Bm j (B' 3 0 2 x) lo hi → nmAt Bm (j + 2) (B' 3 0 3 x) 1 hi → F' 3 0 14 = F 3 0 14 → F' 3 0 15 = F 3 0 15 → F' 3 0 18 = F 3 0 18 → zP (kC 1 F' B') (kM r' Fm' Bm) Q) (no : ∀ F' B' Fm' r', fF F F' → fG Fm Fm' → fX [2, 3] x (F 3 0 15) B B' → ERR F' Fm' → zP (kC 0 F' B') (kM r' Fm' Bm) Q) : zP (zbind (f_Parser_takeFraction K 0 x lo hi F B) kC) (zbind (f_M_number Km lo hi 0 Fm Bm) (fun _ F2 B2 => zbind (f_M_need Km 47 F2 B2) (fun _ F3 B3 => zbind (f_M_number Km 1 hi 0 F3 B3) kM))) Q := by
  have k3 := hE.2.2.2.1
  unfold f_Parser_takeFraction f_Parser_takeFraction_41
  rw [if_pos ⟨(by first | decide | omega), k3⟩]
  rcases P_num hE hS hl hh with ⟨n1, n2, n3, c1, m1, hS1⟩ | ⟨s, s', v, c1, m1, er⟩
  · rw [c1, m1]
    simp only [zb_s]
    rw [if_pos (show r32 1 by decide), if_neg (show ¬ (1 : Int) = 0 by decide), if_pos hx]
    have e19 : (advF (zup3 F 3 0 19 (Bm 14 0 9 j)) B) 3 0 19 = Bm 14 0 9 j := by rw [advF_o (by decide)]; simp [zup3_v]
    rw [e19]
    have hX1 : fX [2, 3] x (F 3 0 15) B (zup4 B 3 0 2 x (Bm 14 0 9 j)) := fX_u fX_r (Or.inl ⟨by decide, rfl⟩)
    have hB1 := fX_B (lo := x) hX1 (by decide) (Int.le_refl _)
    have hE1 := EV_f hE hB1 (fH_r (fr := 0))
    have hS1' := PS_f hS1 hB1 (fH_r (fr := 0))
    rcases P_sig hE1 hS1' (c := 47) (by decide) with ⟨_, c2, m2, hS2⟩ | ⟨c2, m2, er⟩
    · rw [c2, m2]
      simp only [zb_s]
      rw [if_pos (show r32 1 by decide), if_neg (show ¬ (1 : Int) = 0 by decide)]
      rcases P_num hE1 hS2 (lo := 1) (hi := hi) (by decide) hh with ⟨p1, p2, p3, c3, m3, hS3⟩ | ⟨s, s', v, c3, m3, er⟩
      · rw [c3, m3]
        simp only [zb_s]
        rw [if_pos (show r32 1 by decide), if_neg (show ¬ (1 : Int) = 0 by decide)]
        have e19' : (advF (zup3 (advF (advF (zup3 F 3 0 19 (Bm 14 0 9 j)) B) (zup4 B 3 0 2 x (Bm 14 0 9 j))) 3 0 19 (Bm 14 0 9 (j + 1 + 1))) (zup4 B 3 0 2 x (Bm 14 0 9 j))) 3 0 19 = Bm 14 0 9 (j + 1 + 1) := by rw [advF_o (by decide)]; simp [zup3_v]
        rw [e19']
        have hX2 : fX [2, 3] x (F 3 0 15) B (zup4 (zup4 B 3 0 2 x (Bm 14 0 9 j)) 3 0 3 x (Bm 14 0 9 (j + 1 + 1))) := fX_u hX1 (Or.inl ⟨by decide, rfl⟩)
        have hX3 : fX [2, 3] x (F 3 0 15) (zup4 B 3 0 2 x (Bm 14 0 9 j)) (zup4 (zup4 B 3 0 2 x (Bm 14 0 9 j)) 3 0 3 x (Bm 14 0 9 (j + 1 + 1))) := fX_u fX_r (Or.inl ⟨by decide, rfl⟩)
        refine ok _ _ _ _ (fF_a (fF_u (fF_a (fF_a (fF_u fF_r (by decide)))) (by decide))) (fG_u (fG_u (fG_u fG_r (by decide) (by decide)) (by decide) (by decide)) (by decide) (by decide)) hX2 ?_ ?_ ?_ ?_ ?_ ?_
        · have := PS_f hS3 (fX_B (lo := x) hX3 (by decide) (Int.le_refl _)) (fH_r (fr := 0))
          rw [show j + 3 = j + 1 + 1 + 1 by omega]; exact this
        · refine ⟨n1, ?_, ?_, ?_⟩ <;> simp [zup4_v] <;> assumption
        · rw [show j + 2 = j + 1 + 1 by omega]
          refine ⟨p1, ?_, ?_, ?_⟩ <;> simp [zup4_v] <;> assumption
        · simp [advF_o, zup3_v]
        · simp [advF_o, zup3_v]
        · simp [advF_o, zup3_v]
      · rw [c3, m3]
        simp only [zb_s]
        rw [if_pos (show r32 0 by decide), if_pos trivial]
        exact no _ _ _ _ (fF_e (fF_a (fF_a (fF_u fF_r (by decide))))) (fG_e (fG_u (fG_u fG_r (by decide) (by decide)) (by decide) (by decide))) hX1 er
    · rw [c2, m2]
      simp only [zb_s]
      rw [if_pos (show r32 0 by decide), if_pos trivial, L_numberB er.2]
      simp only [zb_s]
      exact no _ _ _ _ (fF_e (fF_a (fF_u fF_r (by decide)))) (fG_e (fG_u fG_r (by decide) (by decide))) hX1 er
  · rw [c1, m1]
    simp only [zb_s]
    rw [if_pos (show r32 0 by decide), if_pos trivial, L_needB er.2]
    simp only [zb_s]
    rw [L_numberB er.2]
    simp only [zb_s]
    exact no _ _ _ _ (fF_e fF_r) (fG_e fG_r) fX_r er
end
