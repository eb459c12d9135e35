section
/-! ===== every item, on both sides ===== -/
theorem IPO_r {L : Int} {d : Nat} {N j x r : Int} {F : zF} {B : zB} {Fm : zF} {Bm : zB} {F' : zF} {B' : zB} {Fm' : zF} {Bm' : zB} (h : IPO L d N j x F B Fm Bm r F' B' Fm' Bm') : r = 0 ∨ r = 1 := by
  rcases h.2.2.2.2 with z | z
  · exact Or.inr z.1
  · exact Or.inl z.1
theorem wB_n {v : Int} (h : fiL wB v 0 = -1) : ¬ v = 125780002955636 ∧ ¬ v = 7697253 ∧ ¬ v = 1836021349 ∧ ¬ v = 120299659095922 ∧ ¬ v = 1650549611 ∧ ¬ v = 1936486263 := by
  have m := fiL_n.mp h
  unfold wB at m
  simp only [List.mem_cons, List.not_mem_nil, or_false, not_or] at m
  exact m
theorem L_itemBad {K : zK} {Km : Nat} {N : Int} {om om' : oT_P} (ho : ∀ F B, om.2.2.2 F B = fb_M_itemOfWord om' Km F B) : ItemBad K Km N (fun F B => fb_M_item om Km F B) := by
  intro j F B Fm Bm hE hS hs
  have hg := hS.2.2.2.1
  have hM := PS_MX hE hS
  have jj := hS.2.1.1
  have nn := hE.1.2.1
  have ek := hS.2.1.2.1
  have ev := hS.2.1.2.2.2.1
  have tk := hE.1.2.2 j jj.1 jj.2
  have hkk := hM.2.2.1
  have e16 : (errM Fm Bm (wr Bm j)) 14 0 16 = j := by unfold errM; simp [zup3_v]; exact hM.1
  refine ⟨0, ?_⟩
  show fb_M_item om Km Fm Bm = _
  by_cases k4 : Bm 14 0 7 j = 4
  · have v4 : F 10 0 2 = Bm 14 0 11 j := by rw [ev]; exact (tk.2.2.2.2.2.2.1 k4).1
    have wd : wdAt Bm j (Bm 14 0 11 j) := ⟨k4, rfl⟩
    unfold isrt at hs
    rw [ek, if_pos k4, v4] at hs
    by_cases f : fiL wB (Bm 14 0 11 j) 0 = -1
    · rw [if_pos f] at hs
      have n114 : ¬ Bm 14 0 11 j = 114 := fun z => by rw [if_pos z] at hs; omega
      obtain ⟨n1, n2, n3, n4, n5, n6⟩ := wB_n f
      have t : ∀ c, r64 c → ¬ Bm 14 0 11 j = c → f_M_isWord Km c Fm Bm = some (0, Fm, Bm) := fun c hc n => by rw [L_wd hM wd hc, if_neg n]
      rw [L_itemW hM wd ho]
      unfold fb_M_itemOfWord f_M_itemOfWord_389
      simp only [t 114 (by decide) n114, t 125780002955636 (by decide) n1, t 7697253 (by decide) n2, t 1836021349 (by decide) n3, t 120299659095922 (by decide) n4, t 1650549611 (by decide) n5, t 1936486263 (by decide) n6, zb_s, ir0, if_true, L_wrong hg hM]
      rw [L_202 (by first | decide | omega), e16]
    · rw [if_neg f] at hs
      have := fiL_b (w := Bm 14 0 11 j) (L := wB)
      omega
  · have k2 : ¬ Bm 14 0 7 j = 2 := by
      intro z
      unfold isrt at hs
      rw [ek, if_neg k4, if_pos z] at hs
      omega
    have t : ∀ c, (c = 60 ∨ c = 124 ∨ c = 33 ∨ c = 91) → f_M_isSign Km c Fm Bm = some (0, Fm, Bm) := by
      intro c hc
      rw [L_isSign hM (by first | decide | omega)]
      rw [show sgm Bm j c = 0 from sgm_0.mpr (fun z => by
        have v5 : F 10 0 2 = Bm 14 0 9 j := by rw [ev]; exact (tk.2.2.2.2.2.2.2.1 z.1).1
        unfold isrt at hs
        rw [ek, if_neg k4, if_neg k2, if_pos z.1, v5, z.2] at hs
        rcases hc with rfl | rfl | rfl | rfl <;> simp at hs)]
    unfold fb_M_item
    rw [hM.1, if_pos (by first | decide | omega), if_pos (by first | decide | omega), if_neg k2]
    simp only [t 60 (by decide), t 124 (by decide), t 33 (by decide), t 91 (by decide), zb_s, ir0, if_true]
    rw [hM.1, if_pos (by first | decide | omega), if_pos (by first | decide | omega), if_neg k4, L_wrong hg hM]
    simp only [zb_s]
    rw [L_202 (by first | decide | omega), e16]
theorem blk_sim {L : Int} {d : Nat} {K : zK} {Km : Nat} {N : Int} {a b : Nat} (hI : ∀ d', d = d' + 1 → ItemSim L K Km N d' (gr_CP K a).2.2.1 (gr_P Km (b + 2)).2.1) : BlkSim L K Km N d (gr_CP K (a + 2)).1 (gr_P Km (b + 3)).1 :=
  P_block (o := gr_CP K (a + 1)) (o' := gr_CP K a) (om := gr_P Km (b + 2)) (fun _ _ _ _ => rfl) hI (L_itemBad (om := gr_P Km (b + 1)) (om' := gr_P Km b) (fun _ _ => rfl))
theorem blk_bad {Km : Nat} {b : Nat} (hK : 3002 ≤ Km) : BlkBad (gr_P Km (b + 1)).1 := L_blockB (om := gr_P Km b) hK
theorem item_step {L : Int} {K : zK} {Km : Nat} {N : Int} (hK : 3002 ≤ Km) {d g g' : Nat} (hg : 5 * d + 5 ≤ g) (hg' : 3 * d + 6 ≤ g') (hI : ∀ d', d = d' + 1 → ∀ {g g' : Nat}, 5 * d' + 5 ≤ g → 3 * d' + 6 ≤ g' → ItemSim L K Km N d' (gr_CP K g).2.2.1 (gr_P Km g').2.1) : ItemSim L K Km N d (gr_CP K g).2.2.1 (gr_P Km g').2.1 := by
  obtain ⟨a, rfl⟩ : ∃ a, g = a + 5 := ⟨g - 5, (by first | decide | omega)⟩
  obtain ⟨b, rfl⟩ : ∃ b, g' = b + 6 := ⟨g' - 6, (by first | decide | omega)⟩
  have b1 : BlkSim L K Km N d (gr_CP K (a + 4)).1 (gr_P Km (b + 4)).1 := blk_sim (a := a + 2) (b := b + 1) (fun d' h => hI d' h (by first | decide | omega) (by first | decide | omega))
  have b2 : BlkSim L K Km N d (gr_CP K (a + 3)).1 (gr_P Km (b + 4)).1 := blk_sim (a := a + 1) (b := b + 1) (fun d' h => hI d' h (by first | decide | omega) (by first | decide | omega))
  have b3 : BlkSim L K Km N d (gr_CP K (a + 2)).1 (gr_P Km (b + 4)).1 := blk_sim (a := a) (b := b + 1) (fun d' h => hI d' h (by first | decide | omega) (by first | decide | omega))
  have bd : BlkBad (gr_P Km (b + 4)).1 := blk_bad (b := b + 3) hK
  intro x j F B Fm Bm x0 x1 hxi hij hE hS hd hdp hLT hF hn
  have ho : ∀ F B, (gr_P Km (b + 5)).2.2.2 F B = fb_M_itemOfWord (gr_P Km (b + 4)) Km F B := fun _ _ => rfl
  show zP (fb_Parser_takeItem (gr_CP K (a + 4)) K 0 x F B) (fb_M_item (gr_P Km (b + 5)) Km Fm Bm) _
  have hx : 0 ≤ x ∧ x < 3000 := ⟨x0, x1⟩
  have hX := PS_CX hE hS
  have hM := PS_MX hE hS
  have jj := hS.2.1.1
  have nn := hE.1.2.1
  have ek := hS.2.1.2.1
  have ev := hS.2.1.2.2.2.1
  have tk := hE.1.2.2 j jj.1 jj.2
  by_cases k4 : Bm 14 0 7 j = 4
  · have v4 : F 10 0 2 = Bm 14 0 11 j := by rw [ev]; exact (tk.2.2.2.2.2.2.1 k4).1
    rw [ek, v4] at hF hn
    by_cases w1 : Bm 14 0 11 j = 125780002955636
    · rw [k4, w1, show isrt 4 125780002955636 = 4 by decide] at hF
      exact P_repeat hx hxi hij hE hS hd hdp hLT hF ⟨k4, w1⟩ ho (fun _ _ _ _ => rfl) (fun _ _ _ _ => rfl) (o' := gr_CP K (a + 3)) (o'' := gr_CP K (a + 2)) b2 b3 bd
    by_cases w2 : Bm 14 0 11 j = 7697253
    · rw [k4, w2, show isrt 4 7697253 = 5 by decide] at hF
      exact P_use hx hxi hE hS hLT hF ⟨k4, w2⟩ ho
    by_cases w3 : Bm 14 0 11 j = 1836021349
    · rw [k4, w3, show isrt 4 1836021349 = 6 by decide] at hF
      exact P_move hx hxi hij hE hS hd hdp hLT hF ⟨k4, w3⟩ ho (fun _ _ _ _ => rfl) (o' := gr_CP K (a + 3)) b2 bd
    by_cases w4 : Bm 14 0 11 j = 120299659095922
    · rw [k4, w4, show isrt 4 120299659095922 = 7 by decide] at hF
      exact P_mirror hx hxi hij hE hS hd hdp hLT hF ⟨k4, w4⟩ ho (fun _ _ _ _ => rfl) (o' := gr_CP K (a + 3)) b2 bd
    by_cases w5 : Bm 14 0 11 j = 1650549611
    · rw [k4, w5, show isrt 4 1650549611 = 8 by decide] at hF
      exact P_back hx hxi hij hE hS hd hdp hLT hF ⟨k4, w5⟩ ho b1
    by_cases w6 : Bm 14 0 11 j = 1936486263
    · rw [k4, w6, show isrt 4 1936486263 = 9 by decide] at hF
      exact P_slow hx hxi hij hE hS hd hdp hLT hF ⟨k4, w6⟩ ho b1 bd
    have f : fiL wB (Bm 14 0 11 j) 0 = -1 := by
      refine fiL_n.mpr ?_
      unfold wB
      simp only [List.mem_cons, List.not_mem_nil, or_false, not_or]
      exact ⟨w1, w2, w3, w4, w5, w6⟩
    by_cases w7 : Bm 14 0 11 j = 114
    · have wd : wdAt Bm j 114 := ⟨k4, w7⟩
      rw [k4, w7, show isrt 4 114 = 0 by decide] at hF
      have t : ∀ c, r64 c → f_M_isWord Km c Fm Bm = some (if 114 = c then 1 else 0, Fm, Bm) := fun c hc => L_wd hM wd hc
      rw [C_itemE hX hx hF.1, L_itemW hM wd ho]
      unfold fb_M_itemOfWord f_M_itemOfWord_389
      simp only [t 114 (by decide), zb_s, zb_a, ir1, if_true, if_false, Int.reduceEq, hM.1]
      rw [if_pos (show 0 ≤ j ∧ j < 3001 by omega), zb_a]
      simp only [zb_s]
      refine zP_cl (P_evR (o := gr_P Km (b + 5)) (L := L) (d := d) hx (by first | decide | omega) hE hS hF wd hdp) (fun r F' B' r' Fm' Bm' hh => ?_)
      rw [if_pos (IPO_r hh)]
      exact zP_s hh
    · exfalso
      apply hn
      unfold isrt
      rw [if_pos k4, if_pos f, if_neg w7]
  · by_cases k2 : Bm 14 0 7 j = 2
    · rw [ek, k2, show isrt 2 (F 10 0 2) = 0 by unfold isrt; rw [if_neg (by decide), if_pos rfl]] at hF
      rw [C_itemE hX hx hF.1]
      unfold fb_M_item
      rw [hM.1, if_pos (by first | decide | omega), if_pos (by first | decide | omega), if_pos k2]
      refine zP_cl (P_evP (o := gr_P Km (b + 5)) (L := L) (d := d) hx (by first | decide | omega) hE hS hF k2 hdp) (fun r F' B' r' Fm' Bm' hh => ?_)
      rw [if_pos (IPO_r hh)]
      exact zP_s hh
    · by_cases k5 : Bm 14 0 7 j = 5
      · have v5 : F 10 0 2 = Bm 14 0 9 j := by rw [ev]; exact (tk.2.2.2.2.2.2.2.1 k5).1
        rw [ek, k5, v5] at hF hn
        by_cases c1 : Bm 14 0 9 j = 60
        · have sg : sgAt Bm j 60 := ⟨k5, c1⟩
          rw [c1, show isrt 5 60 = 0 by decide] at hF
          have t : ∀ c, r32 c → f_M_isSign Km c Fm Bm = some (if 60 = c then 1 else 0, Fm, Bm) := fun c hc => L_sg hM sg hc
          rw [C_itemE hX hx hF.1]
          unfold fb_M_item
          rw [hM.1, if_pos (by first | decide | omega), if_pos (by first | decide | omega), if_neg k2]
          simp only [t 60 (by decide), zb_s, ir1, if_true, if_false, Int.reduceEq]
          refine zP_cl (P_evC (o := gr_P Km (b + 5)) (L := L) (d := d) hx (by first | decide | omega) hE hS hF sg hdp) (fun r F' B' r' Fm' Bm' hh => ?_)
          rw [if_pos (IPO_r hh)]
          exact zP_s hh
        by_cases c2 : Bm 14 0 9 j = 124
        · rw [c2, show isrt 5 124 = 1 by decide] at hF
          exact P_bar hx hxi hE hS hF ⟨k5, c2⟩
        by_cases c3 : Bm 14 0 9 j = 33
        · rw [c3, show isrt 5 33 = 2 by decide] at hF
          exact P_loud hx hxi hE hS hF ⟨k5, c3⟩
        by_cases c4 : Bm 14 0 9 j = 91
        · rw [c4, show isrt 5 91 = 3 by decide] at hF
          exact P_tup hx hxi hij hE hS hd hdp hLT hF ⟨k5, c4⟩ (o' := gr_CP K (a + 3)) (o'' := gr_CP K (a + 2)) (om' := gr_P Km (b + 4)) (fun _ _ _ _ => rfl) (fun _ _ _ _ => rfl) (fun _ _ => rfl) (fun d' h => hI d' h (by first | decide | omega) (by first | decide | omega)) (L_itemBad (om := gr_P Km (b + 3)) (om' := gr_P Km (b + 2)) (fun _ _ => rfl))
        exfalso
        apply hn
        unfold isrt
        rw [if_neg (by decide), if_neg (by decide), if_pos rfl, if_neg c1, if_neg c2, if_neg c3, if_neg c4]
      · exfalso
        apply hn
        unfold isrt
        rw [ek, if_neg k4, if_neg k2, if_neg k5]
theorem item_sim {L : Int} {K : zK} {Km : Nat} {N : Int} (hK : 3002 ≤ Km) : ∀ {d : Nat} {g g' : Nat}, 5 * d + 5 ≤ g → 3 * d + 6 ≤ g' → ItemSim L K Km N d (gr_CP K g).2.2.1 (gr_P Km g').2.1 := by
  intro d
  induction d with
  | zero =>
    intro g g' hg hg'
    exact item_step hK hg hg' (fun d' h => (by first | decide | omega))
  | succ d ih =>
    intro g g' hg hg'
    exact item_step hK hg hg' (fun d' h => by
      have : d' = d := by omega
      subst this
      intro g g' h1 h2
      exact ih h1 h2)
end
