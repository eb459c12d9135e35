section
/-! ===== lets, on both sides ===== -/
theorem top_blk {L : Int} {K : zK} {Km : Nat} {N : Int} (hK : 3002 ≤ Km) : BlkSim L K Km N 8 (f_Parser_takeBlock K) (f_M_block Km) :=
  blk_sim (a := 58) (b := 37) (fun d' h => by
    have : d' = 7 := by omega
    subst this
    exact @item_sim L K Km N hK 7 58 39 (by decide) (by decide))
theorem top_bad {Km : Nat} (hK : 3002 ≤ Km) : BlkBad (f_M_block Km) := blk_bad (b := 39) hK
/-- the lets' blocks, as every later world that agrees sees them -/
def SLT (L hi ph e : Int) (B Bm : zB) : Prop := ∀ q, 0 ≤ q → q < L → ∀ Bx By, agB L 0 hi 0 ph (-1) B Bx → agM L 0 e Bm By → (∀ r, 0 ≤ r → r < L → By 14 0 26 r = Bm 14 0 26 r) → 0 ≤ By 14 0 26 q ∧ BKf (IRd q 7) Bx By (Bx 3 0 13 q) (By 14 0 26 q)
/-- the state of both parsers in the head of a text -/
def HI (K : zK) (Km : Nat) (N L j p w : Int) (F : zF) (B : zB) (Fm : zF) (Bm : zB) : Prop := EV K Km N B Bm ∧ PS N j F B Fm Bm ∧ HP K p w F Fm ∧ LT L F B Fm Bm ∧ F 3 0 14 ≤ j ∧ 0 ≤ F 3 0 14 ∧ F 3 0 18 = 0 ∧ SLT L (F 3 0 14) (F 3 0 15) j B Bm
def tB (B B' : zB) : Prop := ∀ c i k x, ¬ (c = 3 ∧ i = 0) → B' c i k x = B c i k x
def tM (B B' : zB) : Prop := ∀ c i k x, ¬ (c = 14 ∧ i = 0 ∧ 25 ≤ k ∧ k ≤ 34) → B' c i k x = B c i k x
theorem tB_t {B B' B'' : zB} (h : tB B B') (h' : tB B' B'') : tB B B'' := fun c i k x a => by rw [h' c i k x a, h c i k x a]
theorem tM_t {B B' B'' : zB} (h : tM B B') (h' : tM B' B'') : tM B B'' := fun c i k x a => by rw [h' c i k x a, h c i k x a]
theorem tB_r {B : zB} : tB B B := fun _ _ _ _ _ => rfl
theorem tM_r {B : zB} : tM B B := fun _ _ _ _ _ => rfl
theorem tB_K {k0 : Nat} {x0 lo pl : Int} {B B' : zB} (h : fK k0 x0 lo pl B B') : tB B B' := fun c i k x a => h c i k x (fun z => a ⟨z.1, z.2.1⟩) (fun z => a ⟨z.1, z.2.1⟩) (fun z => a ⟨z.1, z.2.1⟩)
theorem tM_H {fr : Int} {B B' : zB} (h : fH fr B B') : tM B B' := fun c i k x a => h c i k x (fun z => a ⟨z.1, z.2.1, by have := z.2.2.1; omega, by have := z.2.2.2.1; omega⟩)
theorem tB_u {B B' : zB} {k : Nat} {x v : Int} (h : tB B B') : tB B (zup4 B' 3 0 k x v) := fun c i y z a => by
  rw [zup4_v, if_neg (fun q => a ⟨q.1, q.2.1⟩)]; exact h c i y z a
theorem tM_u {B B' : zB} {k : Nat} {x v : Int} (h : tM B B') (h1 : 25 ≤ k) (h2 : k ≤ 34) : tM B (zup4 B' 14 0 k x v) := fun c i y z a => by
  rw [zup4_v, if_neg (fun q => a ⟨q.1, q.2.1, by rw [q.2.2.1]; exact h1, by rw [q.2.2.1]; exact h2⟩)]; exact h c i y z a
theorem EV_t {K : zK} {Km : Nat} {N : Int} {B B' Bm Bm' : zB} (h : EV K Km N B Bm) (hB : tB B B') (hm : tM Bm Bm') : EV K Km N B' Bm' := EV_B h (fun k => by funext x; exact hB 10 0 k x (fun z => absurd z.1 (by decide))) (fun k hk => by funext x; exact hm 14 0 k x (fun z => by have := z.2.2.1; omega))
theorem PS_t {N j : Int} {F : zF} {B B' : zB} {Fm : zF} {Bm Bm' : zB} (h : PS N j F B Fm Bm) (hB : tB B B') (hm : tM Bm Bm') : PS N j F B' Fm Bm' := PS_B h (fun k => by funext x; exact hB 10 0 k x (fun z => absurd z.1 (by decide))) (fun k hk => by funext x; exact hm 14 0 k x (fun z => by have := z.2.2.1; omega))
theorem agB_L {L L' lo hi pl ph x : Int} {B B' : zB} (h : agB L lo hi pl ph x B B') (hl : L' ≤ L) : agB L' lo hi pl ph x B B' := ⟨h.1, h.2.1, fun q a b => h.2.2 q a (by first | decide | omega)⟩
theorem agM_L {L L' i e : Int} {B B' : zB} (h : agM L i e B B') (hl : L' ≤ L) : agM L' i e B B' := ⟨h.1, h.2.1, fun q a b => h.2.2 q a (by first | decide | omega)⟩
/-- the lets' blocks stay as they are while the parsers go on -/
theorem SLT_t {L hi hi' ph ph' e e' : Int} {B Bm B' Bm' : zB} (h : SLT L hi ph e B Bm) (aB : agB L 0 hi 0 ph (-1) B B') (aM : agM L 0 e Bm Bm') (a26 : ∀ r, 0 ≤ r → r < L → Bm' 14 0 26 r = Bm 14 0 26 r) (h1 : hi ≤ hi') (h2 : ph ≤ ph') (h3 : e ≤ e') : SLT L hi' ph' e' B' Bm' := fun q q0 q1 Bx By ab am a => h q q0 q1 Bx By (agB_t aB (agB_m ab (Int.le_refl _) h1 (Int.le_refl _) h2 (Or.inl rfl))) (agM_t aM (agM_m am (Int.le_refl _) h3)) (fun r r0 r1 => by rw [a r r0 r1, a26 r r0 r1])
theorem HP_cg {K : zK} {p w : Int} {F F' Fm Fm' : zF} (h : HP K p w F Fm) (h6 : ∀ k, 2 ≤ k → k ≤ 6 → F' 6 p k = F 6 p k) (h17 : F' 3 0 17 = F 3 0 17) (hm : ∀ k, 2 ≤ k → k ≤ 6 → Fm' 13 w k = Fm 13 w k) (h14 : ∀ k, k = 6 ∨ k = 22 ∨ k = 23 ∨ k = 24 → Fm' 14 0 k = Fm 14 0 k) : HP K p w F' Fm' := by
  unfold HP at *
  rw [h6 2 (by decide) (by decide), h6 3 (by decide) (by decide), h6 4 (by decide) (by decide), h6 5 (by decide) (by decide), h6 6 (by decide) (by decide), h17, hm 2 (by decide) (by decide), hm 3 (by decide) (by decide), hm 4 (by decide) (by decide), hm 5 (by decide) (by decide), hm 6 (by decide) (by decide), h14 6 (by decide), h14 22 (by decide), h14 23 (by decide), h14 24 (by decide)]
  exact h
theorem HP_f {K : zK} {p w : Int} {F F' Fm Fm' : zF} (h : HP K p w F Fm) (hF : fF F F') (hG : fG Fm Fm') : HP K p w F' Fm' := HP_cg h (fun k _ _ => hF 6 p k (fun z => absurd z.1 (by decide)) (fun z => absurd z.1 (by decide))) (hF 3 0 17 (by decide) (by decide)) (fun k _ _ => hG 13 w k (fun z => absurd z.1 (by decide))) (fun k hk => hG 14 0 k (fun z => by have := z.2.2.2; omega))
theorem P_let {K : zK} {Km : Nat} {N L j p w : Int} {F : zF} {B : zB} {Fm : zF} {Bm : zB} (hH : HI K Km N L j p w F B Fm Bm) (wd : wdAt Bm j 7103860) (hL : L < 6) : zP (f_Parser_takeLet K 0 F B) (f_M_headLet Km Fm Bm) (fun r F' B' _ Fm' Bm' => hF p F F' ∧ hG w Fm Fm' ∧ tB B B' ∧ tM Bm Bm' ∧ (r = 1 ∧ (∃ j', j < j' ∧ HI K Km N (L + 1) j' p w F' B' Fm' Bm') ∧ (Fm' 14 0 22 = Fm 14 0 22 ∧ Fm' 14 0 23 = Fm 14 0 23 ∧ Fm' 14 0 24 = Fm 14 0 24) ∨ r = 0 ∧ ERR F' Fm')) := by
  obtain ⟨hE, hS, hP, hLT, hit, hi0, hdep, hSL⟩ := hH
  have hX := PS_CX hE hS
  have hM := PS_MX hE hS
  have k3 := hE.2.2.2.1
  have k10 := hE.2.2.2.2.1
  have km := hE.2.2.2.2.2.2
  have h4 := wd.1
  have jj := hS.2.1.1
  have nn := hE.1.2.1
  have ep := hS.2.1.2.2.1
  have tk0 := hE.1.2.2 j jj.1 jj.2
  have p15 := hS.2.2.2.2.2.2.2
  have hjN : j < N := by
    have : ¬ j = N := fun z => by have := tk0.2.2.2.1.mpr z; omega
    omega
  have hx14 : 0 ≤ F 3 0 14 ∧ F 3 0 14 < 3000 := by omega
  have hLT0 := hLT
  obtain ⟨l1, l2, l3, l4⟩ := hLT
  -- the root is made, the word let is passed
  have hK1 : fK 0 (F 3 0 14) (F 3 0 14) (F 3 0 15) B (newB B (F 3 0 14) 10 (F 10 0 1)) := newB_k fK_r (Int.le_refl _)
  have hE1 := EV_k hE hK1 (fJ_H (fr := 0) (j := j) fH_r (Int.le_refl _))
  have hS0 := PS_k (PS_u (k := 14) (v := F 3 0 14 + 1) hS (by decide)) hK1 (fJ_H (fr := 0) (j := j) fH_r (Int.le_refl _))
  have hS1 := PS_step hE1 hS0 (by first | decide | omega)
  have hX1 := PS_CX hE1 hS1
  have hM1 := PS_MX hE1 hS1
  have hg1 := hS1.2.2.2.1
  have jj1 := hS1.2.1.1
  have ev := hS1.2.1.2.2.2.1
  have tk := hE1.1.2.2 (j + 1) jj1.1 jj1.2
  have nr := nmF_r (Bm 14 0 7 (j + 1)) (Bm 14 0 11 (j + 1))
  have gF1 : fF F (advF (zup3 F 3 0 14 (F 3 0 14 + 1)) (newB B (F 3 0 14) 10 (F 10 0 1))) := fF_a (fF_u fF_r (by decide))
  have gG1 : fG Fm (zup3 Fm 14 0 16 (j + 1)) := fG_u fG_r (by decide) (by decide)
  have gB1 : tB B (newB B (F 3 0 14) 10 (F 10 0 1)) := tB_K hK1
  have hLT1 := LT_k hLT0 gF1 gG1 hK1 (by decide) (fJ_H (fr := 0) (j := j) fH_r (Int.le_refl _))
  have badL : ∀ {Fx : zF} {Bx : zB}, bad Fx → f_M_headLet_66 Km Fx Bx = some (0, Fx, Bx) := by
    intro Fx Bx hb
    unfold f_M_headLet_66
    rw [L_goodB hb]
    simp only [zb_s, ir0, if_true]
  unfold f_Parser_takeLet f_M_headLet f_Parser_takeLet_80
  rw [if_pos ⟨Int.le_refl _, k3⟩, C_newItem hX hx14, l2, if_pos (show r32 L by omega), if_neg (show ¬ L = 6 by omega), hM.1, L_isName km hM1 hE1.2.1]
  simp only [zb_s]
  rw [show (zup3 F 3 0 14 (F 3 0 14 + 1)) 3 0 11 = 0 from hS0.1, if_pos ⟨Int.le_refl _, k10⟩, C_adv (PS_CX hE1 hS0)]
  simp only [zb_s]
  rw [C_isName hX1, PS_nm hE1 hS1]
  simp only [zb_s]
  rw [if_pos (show r32 (nmF (Bm 14 0 7 (j + 1)) (Bm 14 0 11 (j + 1))) by omega), if_pos (show r32 (nmF (Bm 14 0 7 (j + 1)) (Bm 14 0 11 (j + 1))) by omega)]
  by_cases z : nmF (Bm 14 0 7 (j + 1)) (Bm 14 0 11 (j + 1)) = 0
  · have er := PS_err2 hE1 hS1
    rw [if_pos z, if_pos z, C_refuse hX1, L_wrong hg1 hM1]
    simp only [zb_s]
    rw [if_pos (by decide), badL er.2]
    exact zP_s ⟨hF_f (fF_e gF1), hG_f (fG_e gG1), gB1, tM_r, Or.inr ⟨rfl, er⟩⟩
  · have k4 : Bm 14 0 7 (j + 1) = 4 := by
      by_cases q : Bm 14 0 7 (j + 1) = 4 ∧ nmC (Bm 14 0 11 (j + 1))
      · exact q.1
      · exact absurd (nmF_0 q) z
    have w4 := hM1.2.2.2.2 k4
    have e2 : (advF (zup3 F 3 0 14 (F 3 0 14 + 1)) (newB B (F 3 0 14) 10 (F 10 0 1))) 10 0 2 = Bm 14 0 11 (j + 1) := by rw [ev]; exact (tk.2.2.2.2.2.2.1 k4).1
    obtain ⟨m1, m2, m3, m4⟩ := hLT1
    have ef : fdR ((newB B (F 3 0 14) 10 (F 10 0 1)) 3 0 12) L (Bm 14 0 11 (j + 1)) 22 0 = fdR (Bm 14 0 25) L (Bm 14 0 11 (j + 1)) 22 0 := fdR_c (fun y p q => (m4 y p q).1)
    have ln := C_letNamed (w := Bm 14 0 11 (j + 1)) hX1 (by first | decide | omega) (fun y p q => (m4 y p (by first | decide | omega)).2.1) (by first | decide | omega)
    rw [m1, ef] at ln
    have e27 : (zup3 Fm 14 0 16 (j + 1)) 14 0 27 = L := m2
    have e16 : (zup3 Fm 14 0 16 (j + 1)) 14 0 16 = j + 1 := by simp [zup3_v]
    have mn := L_find (K := Km) (c := 14) (i := 0) (k := 25) (m := L) (w := Bm 14 0 11 (j + 1)) (F := zup3 Fm 14 0 16 (j + 1)) (B := Bm) km (by decide) (by rw [show (lnM 14 0 25 : Int) = 6 by decide]; omega) (by decide) (by decide) (by first | decide | omega) (fun y p q => by rw [← (m4 y p q).1]; exact (m4 y p q).2.1) (by first | decide | omega)
    rw [if_neg z, if_neg z, hS1.1, if_pos ⟨Int.le_refl _, k10⟩, e2, e16, if_pos (show 0 ≤ j + 1 ∧ j + 1 < 3001 by omega), e27, mn]
    rcases fdR_r (row := Bm 14 0 25) (m := L) (w := Bm 14 0 11 (j + 1)) (f := 22) (k := 0) (by first | decide | omega) with n1 | ⟨n1, n2, n3⟩
    · rw [n1, if_pos (show (-1 : Int) < 0 by decide)] at ln
      have hS2 := PS_step hE1 hS1 (by first | decide | omega)
      rw [ln, n1]
      simp only [zb_s]
      rw [if_pos (show r32 (-1) by decide), if_pos trivial, if_pos (show r32 (-1) by decide), if_pos (show (-1 : Int) < 0 by decide), hS1.1, if_pos ⟨Int.le_refl _, k10⟩, C_adv hX1]
      simp only [zb_s]
      unfold f_M_headLet_66
      rw [L_good hg1]
      simp only [zb_s, ir1, i10]
      rw [e16, if_pos (show 0 ≤ j + 1 ∧ j + 1 < 3001 by omega), e27, if_pos (show 0 ≤ L ∧ L < 6 by omega)]
      -- the name is kept; the length is a quarter again
      have gM2 : tM Bm (zup4 Bm 14 0 25 L (Bm 14 0 11 (j + 1))) := tM_u tM_r (by decide) (by decide)
      have hE2 := EV_t hE1 tB_r gM2
      have hS2m := PS_t hS2 tB_r gM2
      rcases P_sig hE2 hS2m (c := 61) (by decide) with ⟨g61, c3, m3', hS3⟩ | ⟨c3, m3', er⟩
      · -- with the length set on the class's side before, on the reference's behind
        have c3' : f_Parser_takeSign K 0 61 (zup3 (advF (advF (zup3 F 3 0 14 (F 3 0 14 + 1)) (newB B (F 3 0 14) 10 (F 10 0 1))) (newB B (F 3 0 14) 10 (F 10 0 1))) 3 0 20 32) (newB B (F 3 0 14) 10 (F 10 0 1)) = some (1, advF (zup3 (advF (advF (zup3 F 3 0 14 (F 3 0 14 + 1)) (newB B (F 3 0 14) 10 (F 10 0 1))) (newB B (F 3 0 14) 10 (F 10 0 1))) 3 0 20 32) (newB B (F 3 0 14) 10 (F 10 0 1)), newB B (F 3 0 14) 10 (F 10 0 1)) := by
          rw [C_takeSign (CX_u (PS_CX hE1 hS2) (by decide)) (by decide)]
          have sg1 : sgn (zup3 (advF (advF (zup3 F 3 0 14 (F 3 0 14 + 1)) (newB B (F 3 0 14) 10 (F 10 0 1))) (newB B (F 3 0 14) 10 (F 10 0 1))) 3 0 20 32) 61 = sgm Bm (j + 1 + 1) 61 := by
            rw [← PS_sg hE1 hS2]
            unfold sgn
            simp [zup3_v]
          rw [sg1, if_neg (by
            unfold sgm
            have g61' : Bm 14 0 7 (j + 1 + 1) = 5 ∧ Bm 14 0 9 (j + 1 + 1) = 61 := by
              have := g61
              unfold sgAt at this
              simpa [zup4_v] using this
            rw [if_pos g61']
            decide)]
        rw [c3', m3']
        simp only [zb_s, ir1, i10]
        have e27' : (zup3 (zup3 (zup3 Fm 14 0 16 (j + 1)) 14 0 16 (j + 1 + 1)) 14 0 16 (j + 1 + 1 + 1)) 14 0 27 = L := by simp [zup3_v]; exact l2
        have e16' : (zup3 (zup3 (zup3 Fm 14 0 16 (j + 1)) 14 0 16 (j + 1 + 1)) 14 0 16 (j + 1 + 1 + 1)) 14 0 16 = j + 1 + 1 + 1 := by simp [zup3_v]
        rw [e27', if_pos (show 0 ≤ L ∧ L < 6 by omega), e16']
        have gM3 : tM (zup4 Bm 14 0 25 L (Bm 14 0 11 (j + 1))) (zup4 (zup4 Bm 14 0 25 L (Bm 14 0 11 (j + 1))) 14 0 26 L (j + 1 + 1 + 1)) := tM_u tM_r (by decide) (by decide)
        have hS3' := PS_step hE2 (PS_len (v := 32) (n := 4) (p := 0) hS2m (by decide) (Or.inr (Or.inr (Or.inl rfl))) (by decide)) (by rw [g61.1]; decide)
        have hS4 := PS_t (PS_cg (Fm' := zup3 (zup3 (zup3 (zup3 (zup3 Fm 14 0 16 (j + 1)) 14 0 16 (j + 1 + 1)) 14 0 16 (j + 1 + 1 + 1)) 14 0 20 4) 14 0 21 0) hS3' (fun _ => rfl) (fun _ _ => rfl) (fun k hk => by rcases hk with rfl | rfl | rfl | rfl | rfl <;> simp [zup3_v])) tB_r gM3
        have hE4 := EV_t hE2 tB_r gM3
        generalize hF4 : advF (zup3 (advF (advF (zup3 F 3 0 14 (F 3 0 14 + 1)) (newB B (F 3 0 14) 10 (F 10 0 1))) (newB B (F 3 0 14) 10 (F 10 0 1))) 3 0 20 32) (newB B (F 3 0 14) 10 (F 10 0 1)) = F4 at hS4 ⊢
        have a14 : F4 3 0 14 = F 3 0 14 + 1 := by rw [← hF4]; simp [zup3_v, advF_o]
        have a15 : F4 3 0 15 = F 3 0 15 := by rw [← hF4]; simp [zup3_v, advF_o]
        have a16 : F4 3 0 16 = L := by rw [← hF4]; simp [zup3_v, advF_o]; exact l1
        have a18 : F4 3 0 18 = 0 := by rw [← hF4]; simp [zup3_v, advF_o]; exact hdep
        have gF4 : fF F F4 := by rw [← hF4]; exact fF_a (fF_u (fF_a gF1) (by decide))
        generalize hFm4 : zup3 (zup3 (zup3 (zup3 (zup3 Fm 14 0 16 (j + 1)) 14 0 16 (j + 1 + 1)) 14 0 16 (j + 1 + 1 + 1)) 14 0 20 4) 14 0 21 0 = Fm4 at hS4 ⊢
        have gG4 : fG Fm Fm4 := by rw [← hFm4]; exact fG_u (fG_u (fG_u (fG_u gG1 (by decide) (by decide)) (by decide) (by decide)) (by decide) (by decide)) (by decide) (by decide)
        have b27 : Fm4 14 0 27 = L := by rw [← hFm4]; simp [zup3_v]; exact l2
        generalize hBm4 : zup4 (zup4 Bm 14 0 25 L (Bm 14 0 11 (j + 1))) 14 0 26 L (j + 1 + 1 + 1) = Bm4 at hS4 hE4 ⊢
        have gM4 : tM Bm Bm4 := by rw [← hBm4]; exact tM_u gM2 (by decide) (by decide)
        have c25 : ∀ q, q < L → Bm4 14 0 25 q = Bm 14 0 25 q := fun q hq => by rw [← hBm4]; simp [zup4_v]; omega
        have c26 : ∀ q, q < L → Bm4 14 0 26 q = Bm 14 0 26 q := fun q hq => by rw [← hBm4]; simp [zup4_v]; omega
        have c25L : Bm4 14 0 25 L = Bm 14 0 11 (j + 1) := by rw [← hBm4]; simp [zup4_v]
        have c26L : Bm4 14 0 26 L = j + 1 + 1 + 1 := by rw [← hBm4]; simp [zup4_v]
        have c30 : ∀ k, 30 ≤ k → Bm4 14 0 k = Bm 14 0 k := fun k hk => by
          rw [← hBm4]
          funext y
          rw [zup4_v, if_neg (fun q => by have := q.2.2.1; omega), zup4_v, if_neg (fun q => by have := q.2.2.1; omega)]
        have c7 : ∀ k, k ≤ 11 → Bm4 14 0 k = Bm 14 0 k := fun k hk => by funext y; exact gM4 14 0 k y (fun q => by have := q.2.2.1; omega)
        have hLT4 : LT L F4 (newB B (F 3 0 14) 10 (F 10 0 1)) Fm4 Bm4 := ⟨a16, b27, l3, fun q q0 q1 => by rw [c25 q q1]; exact m4 q q0 q1⟩
        have nb := newB_at (B := B) (x := F 3 0 14) (s := 10) (p := F 10 0 1)
        refine zP_c (top_blk km (x := F 3 0 14) (j := j + 1 + 1 + 1) hx14.1 (by first | decide | omega) (by first | decide | omega) hE4 hS4 (by rw [a18]; decide) (by rw [← hFm4, ← hF4, advF_o (by decide)]; simp [zup3_v]; exact ⟨by decide, Or.inr (Or.inr (Or.inl rfl))⟩) hLT4 nb.2.2.2.2.1) (fun r F' B' r' Fm' Bm' hh => ?_)
        obtain ⟨g1, g2, g3, g4, g5⟩ := hh
        rw [a14, a15] at g3
        have f16 : F' 3 0 16 = L := by rw [g1 3 0 16 (by decide) (by decide)]; exact a16
        have f27 : Fm' 14 0 27 = L := by rw [g2 14 0 27 (by decide)]; exact b27
        rcases g5 with ⟨rfl, j', n, v1, v2, v3, v4, v5, v6, v7, v8⟩ | ⟨rfl, er⟩
        · rw [a14] at v5 v7
          rw [a15] at v6 v7
          rw [if_pos (show r32 1 by decide), if_neg (show ¬ (1 : Int) = 0 by decide), f16, if_pos (show 0 ≤ L ∧ L < 6 by omega), f27]
          have gBB : tB B' (zup4 (zup4 B' 3 0 12 L (Bm 14 0 11 (j + 1))) 3 0 13 L (F 3 0 14)) := tB_u (tB_u tB_r)
          have hE5 := EV_t (EV_B hE4 (fK_10 g3) (fun k hk => fH_k g4 k (by first | decide | omega))) gBB (tM_r (B := Bm'))
          have rows : ∀ k y, k ≤ 11 → (zup4 (zup4 B' 3 0 12 L (Bm 14 0 11 (j + 1))) 3 0 13 L (F 3 0 14)) 3 0 k y = B' 3 0 k y := fun k y hk => by rw [zup4_v, if_neg (fun q => by have := q.2.2.1; omega), zup4_v, if_neg (fun q => by have := q.2.2.1; omega)]
          have r12 : ∀ q, q < L → (zup4 (zup4 B' 3 0 12 L (Bm 14 0 11 (j + 1))) 3 0 13 L (F 3 0 14)) 3 0 12 q = B' 3 0 12 q := fun q hq => by simp [zup4_v]; omega
          have r13 : ∀ q, q < L → (zup4 (zup4 B' 3 0 12 L (Bm 14 0 11 (j + 1))) 3 0 13 L (F 3 0 14)) 3 0 13 q = B' 3 0 13 q := fun q hq => by simp [zup4_v]; omega
          have g12 : ∀ k q, 11 ≤ k → B' 3 0 k q = (newB B (F 3 0 14) 10 (F 10 0 1)) 3 0 k q := fun k q hk => g3 3 0 k q (fun z => by have := z.2.2.1; omega) (fun z => by have := z.2.2.2.1; omega) (fun z => by have := z.2.2.1; omega)
          have m25 : Bm' 14 0 25 = Bm4 14 0 25 := fH_k g4 25 (by decide)
          have m26 : Bm' 14 0 26 = Bm4 14 0 26 := fH_k g4 26 (by decide)
          -- the old items seen from the new world
          have aB0 : agB L 0 (F 3 0 14) 0 (F 3 0 15) (-1) B (zup4 (zup4 B' 3 0 12 L (Bm 14 0 11 (j + 1))) 3 0 13 L (F 3 0 14)) := by
            refine ⟨fun k y h1 h2 h3 _ => ?_, fun k y h1 h2 h3 h4 => ?_, fun q h1 h2 => ?_⟩
            · rw [rows k y (by first | decide | omega), g3 3 0 k y (fun z => by have := z.2.2.2; omega) (fun z => by have := z.2.2.1; omega) (fun z => by have := z.2.2.2; omega)]
              exact hK1 3 0 k y (fun z => by have := z.2.2.2; omega) (fun z => by have := z.2.2.1; omega) (fun z => by have := z.2.2.2; omega)
            · rw [rows k y (by first | decide | omega), g3 3 0 k y (fun z => by have := z.2.2.1; omega) (fun z => by have := z.2.2.2.2; omega) (fun z => by have := z.2.2.1; omega)]
              exact hK1 3 0 k y (fun z => by have := z.2.2.1; omega) (fun z => by have := z.2.2.2.2; omega) (fun z => by have := z.2.2.1; omega)
            · rw [r13 q h2, g12 13 q (by decide)]
              exact hK1 3 0 13 q (fun z => absurd z.2.2.1 (by decide)) (fun z => absurd z.2.2.2.1 (by decide)) (fun z => absurd z.2.2.1 (by decide))
          have aM0 : agM L 0 j Bm Bm' := by
            refine ⟨fun k y h1 h2 h3 h4 => ?_, fun k h1 h2 => ?_, fun q h1 h2 => ?_⟩
            · rw [g4 14 0 k y (fun z => by have := z.2.2.2.2; omega), c30 k h1]
            · rw [fH_k g4 k (by first | decide | omega), c7 k h2]
            · rw [m25]; exact c25 q h2
          refine zP_s ⟨hF_u (hF_f (fF_t gF4 g1)) (by decide), hG_u (hG_f (fG_t gG4 g2)) (by decide) (by decide), tB_t gB1 (tB_t (tB_K g3) gBB), tM_t gM4 (tM_H g4), Or.inl ⟨rfl, ⟨j', (by first | decide | omega), hE5, ?_, ?_, ?_, ?_, ?_, ?_, ?_⟩, ?_, ?_, ?_⟩⟩
          · exact PS_t (PS_cg v2 (fun k => by simp [zup3_v]) (fun k hk => by rcases hk with rfl | rfl | rfl | rfl | rfl <;> simp [zup3_v]) (fun k hk => by rcases hk with rfl | rfl | rfl | rfl | rfl <;> simp [zup3_v])) gBB tM_r
          · refine HP_cg (HP_f hP (fF_t gF4 g1) (fG_t gG4 g2)) (fun k _ _ => by simp [zup3_v]) (by simp [zup3_v]) (fun k _ _ => by simp [zup3_v]) (fun k hk => by rcases hk with rfl | rfl | rfl | rfl <;> simp [zup3_v])
          · refine ⟨by simp [zup3_v], by simp [zup3_v], (by first | decide | omega), fun q q0 q1 => ?_⟩
            by_cases e : q = L
            · rw [e, m25, c25L]
              refine ⟨by simp [zup4_v], ?_, ?_⟩
              · simp [zup4_v]; omega
              · simp [zup4_v]; exact hx14
            · rw [r12 q (by first | decide | omega), r13 q (by first | decide | omega), m25, c25 q (by first | decide | omega), g12 12 q (by decide), g12 13 q (by decide)]
              exact m4 q q0 (by first | decide | omega)
          · simp [zup3_v]; omega
          · simp [zup3_v]; omega
          · simp [zup3_v]; rw [v4]; exact a18
          · have s14 : (zup3 F' 3 0 16 (L + 1)) 3 0 14 = F' 3 0 14 := by simp [zup3_v]
            have s15 : (zup3 F' 3 0 16 (L + 1)) 3 0 15 = F' 3 0 15 := by simp [zup3_v]
            rw [s14, s15]
            intro q q0 q1 Bx By ab am a26
            by_cases e : q = L
            · subst e
              have eb : Bx 3 0 13 q = F 3 0 14 := by rw [ab.2.2 q q0 q1]; simp [zup4_v]
              have em : By 14 0 26 q = j + 1 + 1 + 1 := by rw [a26 q q0 q1, m26]; exact c26L
              rw [eb, em]
              have sl : SLR q 7 n ((zup4 (zup4 B' 3 0 12 q (Bm 14 0 11 (j + 1))) 3 0 13 q (F 3 0 14)) 3 0 4 (F 3 0 14)) (j + 1 + 1 + 1 + 1) (j' - 1) (F 3 0 14 + 1) (F' 3 0 14) (F 3 0 15) (F' 3 0 15) (zup4 (zup4 B' 3 0 12 q (Bm 14 0 11 (j + 1))) 3 0 13 q (F 3 0 14)) Bm' := by
                rw [rows 4 _ (by decide)]
                exact SLR_t v7 ⟨fun k y h1 _ _ _ => rows k y (by first | decide | omega), fun k y _ h2 _ _ => rows k y (by first | decide | omega), fun r _ h2 => r13 r h2⟩ agM_r
              refine ⟨(by first | decide | omega), ?_⟩
              exact BK_of (agB_m (agB_L ab (by first | decide | omega)) (by first | decide | omega) (Int.le_refl _) (Int.le_refl _) (Int.le_refl _) (Or.inr (Or.inl (by first | decide | omega)))) (agM_L am (by first | decide | omega)) sl v3 (by first | decide | omega) (Int.le_refl _) (by first | decide | omega) (Int.le_refl _) (by first | decide | omega) (Int.le_refl _) (by first | decide | omega) (by first | decide | omega) (by have h1 := hE.1.2.1; have h2 := v2.2.1.1.2; omega)
            · exact SLT_t hSL aB0 aM0 (fun r _ h2 => by rw [m26]; exact c26 r h2) (by first | decide | omega) (by first | decide | omega) (by first | decide | omega) q q0 (by first | decide | omega) Bx By (agB_L ab (by first | decide | omega)) (agM_L am (by first | decide | omega)) (fun r r0 r1 => a26 r r0 (by first | decide | omega))
          · simp [zup3_v]; rw [g2 14 0 22 (by decide), gG4 14 0 22 (by decide)]
          · simp [zup3_v]; rw [g2 14 0 23 (by decide), gG4 14 0 23 (by decide)]
          · simp [zup3_v]; rw [g2 14 0 24 (by decide), gG4 14 0 24 (by decide)]
        · rw [if_pos (show r32 0 by decide), if_pos rfl]
          exact zP_s ⟨hF_f (fF_t gF4 g1), hG_u (hG_f (fG_t gG4 g2)) (by decide) (by decide), tB_t gB1 (tB_K g3), tM_t gM4 (tM_H g4), Or.inr ⟨rfl, ERR_cg er rfl (by simp [zup3_v]) (by simp [zup3_v])⟩⟩
      · have c3' : f_Parser_takeSign K 0 61 (zup3 (advF (advF (zup3 F 3 0 14 (F 3 0 14 + 1)) (newB B (F 3 0 14) 10 (F 10 0 1))) (newB B (F 3 0 14) 10 (F 10 0 1))) 3 0 20 32) (newB B (F 3 0 14) 10 (F 10 0 1)) = some (0, refF (zup3 (advF (advF (zup3 F 3 0 14 (F 3 0 14 + 1)) (newB B (F 3 0 14) 10 (F 10 0 1))) (newB B (F 3 0 14) 10 (F 10 0 1))) 3 0 20 32) 2, newB B (F 3 0 14) 10 (F 10 0 1)) := by
          rw [C_takeSign (CX_u (PS_CX hE1 hS2) (by decide)) (by decide)]
          have sg1 : sgn (zup3 (advF (advF (zup3 F 3 0 14 (F 3 0 14 + 1)) (newB B (F 3 0 14) 10 (F 10 0 1))) (newB B (F 3 0 14) 10 (F 10 0 1))) 3 0 20 32) 61 = sgn (advF (advF (zup3 F 3 0 14 (F 3 0 14 + 1)) (newB B (F 3 0 14) 10 (F 10 0 1))) (newB B (F 3 0 14) 10 (F 10 0 1))) 61 := by
            unfold sgn
            simp [zup3_v]
          have c0 := C_takeSign (PS_CX hE1 hS2) (c := 61) (by decide)
          rw [sg1]
          by_cases q : sgn (advF (advF (zup3 F 3 0 14 (F 3 0 14 + 1)) (newB B (F 3 0 14) 10 (F 10 0 1))) (newB B (F 3 0 14) 10 (F 10 0 1))) 61 = 0
          · rw [if_pos q]
          · rw [if_neg q, c3] at c0
            injection c0 with c0
            injection c0 with c0
            exact absurd c0 (by decide)
        have e27' : (errM (zup3 (zup3 Fm 14 0 16 (j + 1)) 14 0 16 (j + 1 + 1)) (zup4 Bm 14 0 25 L (Bm 14 0 11 (j + 1))) (wr (zup4 Bm 14 0 25 L (Bm 14 0 11 (j + 1))) (j + 1 + 1))) 14 0 27 = L := by unfold errM; simp [zup3_v]; exact l2
        rw [c3', m3']
        simp only [zb_s, ir0, if_true]
        have erb : bad (zup3 (zup3 (errM (zup3 (zup3 Fm 14 0 16 (j + 1)) 14 0 16 (j + 1 + 1)) (zup4 Bm 14 0 25 L (Bm 14 0 11 (j + 1))) (wr (zup4 Bm 14 0 25 L (Bm 14 0 11 (j + 1))) (j + 1 + 1))) 14 0 20 4) 14 0 21 0) := bad_cg er.2 (by simp [zup3_v])
        rw [e27', if_pos (show 0 ≤ L ∧ L < 6 by omega), top_bad km erb]
        simp only [zb_s]
        refine zP_s ⟨hF_f (fF_e (fF_u (fF_a gF1) (by decide))), hG_u (hG_f (fG_u (fG_u (fG_e (fG_u gG1 (by decide) (by decide))) (by decide) (by decide)) (by decide) (by decide))) (by decide) (by decide), gB1, tM_u gM2 (by decide) (by decide), Or.inr ⟨rfl, ERR_cg er ?_ (by simp [zup3_v]) (by simp [zup3_v])⟩⟩
        unfold refF
        simp [zup3_v]
    · have er := PS_err (s := 4) (s' := 4) hE1 hS1 (by rw [if_neg (by first | decide | omega)]) (by decide)
      have hr13 := (m4 _ n1 n2).2.2
      rw [if_neg (show ¬ fdR (Bm 14 0 25) L (Bm 14 0 11 (j + 1)) 22 0 < 0 by omega)] at ln
      rw [ln]
      simp only [zb_s]
      rw [if_pos (show r32 ((newB B (F 3 0 14) 10 (F 10 0 1)) 3 0 13 (fdR (Bm 14 0 25) L (Bm 14 0 11 (j + 1)) 22 0)) by omega), if_neg (show ¬ (newB B (F 3 0 14) 10 (F 10 0 1)) 3 0 13 (fdR (Bm 14 0 25) L (Bm 14 0 11 (j + 1)) 22 0) = -1 by omega), if_pos (show r32 (fdR (Bm 14 0 25) L (Bm 14 0 11 (j + 1)) 22 0) by omega), if_neg (show ¬ fdR (Bm 14 0 25) L (Bm 14 0 11 (j + 1)) 22 0 < 0 by omega), C_refuse hX1, L_fail hg1 (by rw [e16]; omega)]
      simp only [zb_s]
      rw [if_pos (by decide), badL er.2]
      exact zP_s ⟨hF_f (fF_e gF1), hG_f (fG_e gG1), gB1, tM_r, Or.inr ⟨rfl, er⟩⟩
end
