section
/-! ===== items with blocks: what both sides do, word by word ===== -/
theorem ir0 {a b : zO} : (if r32 0 then a else b) = a := if_pos (by decide)
theorem ir1 {a b : zO} : (if r32 1 then a else b) = a := if_pos (by decide)
theorem i00 {a b : zO} : (if (0 : Int) = 0 then a else b) = a := if_pos rfl
theorem i10 {a b : zO} : (if (1 : Int) = 0 then a else b) = b := if_neg (by decide)
theorem zor01 {r : Int} {a b : zO} (h : r = 0 ∨ r = 1) : (if r = 0 ∨ r = 1 then a else b) = a := if_pos h
/-- the reference at a word: its row of tests -/
theorem L_wd {Km : Nat} {Fm : zF} {Bm : zB} {j w c : Int} (hM : MX Fm Bm j) (h : wdAt Bm j w) (hc : r64 c) : f_M_isWord Km c Fm Bm = some (if w = c then 1 else 0, Fm, Bm) := by
  rw [L_isWord hM hc]
  unfold wdm
  rw [h.1, h.2]
  by_cases e : w = c
  · rw [if_pos ⟨rfl, e⟩, if_pos e]
  · rw [if_neg (fun z => e z.2), if_neg e]
theorem L_itemW {om om' : oT_P} {Km : Nat} {Fm : zF} {Bm : zB} {j w : Int} (hM : MX Fm Bm j) (h : wdAt Bm j w) (ho : ∀ F B, om.2.2.2 F B = fb_M_itemOfWord om' Km F B) : fb_M_item om Km Fm Bm = zbind (fb_M_itemOfWord om' Km Fm Bm) (fun _ F20 B20 => f_M_item_202 om Km j F20 B20) := by
  have s : ∀ c, r32 c → f_M_isSign Km c Fm Bm = some (0, Fm, Bm) := by
    intro c hc
    rw [L_isSign hM hc]
    rw [show sgm Bm j c = 0 from sgm_0.mpr (fun z => by have := z.1; have := h.1; omega)]
  have h4 := h.1
  have h16 := hM.1
  have h0 := hM.2.1
  unfold fb_M_item
  rw [h16, if_pos (by first | decide | omega), if_pos (by first | decide | omega), if_neg (by first | decide | omega)]
  simp only [s 60 (by decide), s 124 (by decide), s 33 (by decide), s 91 (by decide), zb_s, ir0, if_true, if_false]
  rw [h16, if_pos (by first | decide | omega), if_pos (by first | decide | omega), if_pos h4, ho]
theorem C_itemB {o : oT_CP} {K : zK} {F : zF} {B : zB} {x : Int} (hX : CX K F B) (hx : 0 ≤ x ∧ x < 3000) (hk : B 3 0 0 x = 8) : fb_Parser_takeItem o K 0 x F B = zbind (o.1 0 x (advF F B) B) (fun r F B => if (r = 0 ∨ r = 1) then some (r, F, B) else none) := by
  unfold fb_Parser_takeItem
  rw [if_pos ⟨(by first | decide | omega), hX.1⟩, if_pos hx, hk, hX.2.2.1, if_pos (by decide), if_neg (by decide), if_neg (by decide), if_pos ⟨(by first | decide | omega), hX.2.1⟩, C_adv hX]
  simp only [zb_s, hk]
  rfl
theorem C_itemM {o : oT_CP} {K : zK} {F : zF} {B : zB} {x : Int} (hX : CX K F B) (hx : 0 ≤ x ∧ x < 3000) (hk : B 3 0 0 x = 6) : fb_Parser_takeItem o K 0 x F B = zbind (o.2.2.2.2.2.2.1 0 x (advF F B) B) (fun r F B => if (r = 0 ∨ r = 1) then some (r, F, B) else none) := by
  unfold fb_Parser_takeItem
  rw [if_pos ⟨(by first | decide | omega), hX.1⟩, if_pos hx, hk, hX.2.2.1, if_pos (by decide), if_neg (by decide), if_neg (by decide), if_pos ⟨(by first | decide | omega), hX.2.1⟩, C_adv hX]
  simp only [zb_s, hk]
  rfl
theorem C_itemI {o : oT_CP} {K : zK} {F : zF} {B : zB} {x : Int} (hX : CX K F B) (hx : 0 ≤ x ∧ x < 3000) (hk : B 3 0 0 x = 7) : fb_Parser_takeItem o K 0 x F B = zbind (o.2.2.2.2.2.2.2 0 x (advF F B) B) (fun r F B => if (r = 0 ∨ r = 1) then some (r, F, B) else none) := by
  unfold fb_Parser_takeItem
  rw [if_pos ⟨(by first | decide | omega), hX.1⟩, if_pos hx, hk, hX.2.2.1, if_pos (by decide), if_neg (by decide), if_neg (by decide), if_pos ⟨(by first | decide | omega), hX.2.1⟩, C_adv hX]
  simp only [zb_s, hk]
  rfl
theorem C_itemR {o : oT_CP} {K : zK} {F : zF} {B : zB} {x : Int} (hX : CX K F B) (hx : 0 ≤ x ∧ x < 3000) (hk : B 3 0 0 x = 4) : fb_Parser_takeItem o K 0 x F B = zbind (o.2.2.2.2.1 0 x (advF F B) B) (fun r F B => if (r = 0 ∨ r = 1) then some (r, F, B) else none) := by
  unfold fb_Parser_takeItem
  rw [if_pos ⟨(by first | decide | omega), hX.1⟩, if_pos hx, hk, hX.2.2.1, if_pos (by decide), if_neg (by decide), if_neg (by decide), if_pos ⟨(by first | decide | omega), hX.2.1⟩, C_adv hX]
  simp only [zb_s, hk]
  rfl
theorem C_itemU {o : oT_CP} {K : zK} {F : zF} {B : zB} {x : Int} (hX : CX K F B) (hx : 0 ≤ x ∧ x < 3000) (hk : B 3 0 0 x = 5) : fb_Parser_takeItem o K 0 x F B = zbind (f_Parser_takeUse K 0 x (advF F B) B) (fun r F B => if (r = 0 ∨ r = 1) then some (r, F, B) else none) := by
  unfold fb_Parser_takeItem
  rw [if_pos ⟨(by first | decide | omega), hX.1⟩, if_pos hx, hk, hX.2.2.1, if_pos (by decide), if_neg (by decide), if_neg (by decide), if_pos ⟨(by first | decide | omega), hX.2.1⟩, C_adv hX]
  simp only [zb_s, hk]
  rfl
theorem C_itemL {o : oT_CP} {K : zK} {F : zF} {B : zB} {x : Int} (hX : CX K F B) (hx : 0 ≤ x ∧ x < 3000) (hk : B 3 0 0 x = 2) : fb_Parser_takeItem o K 0 x F B = zbind (f_Parser_takeLoud K 0 x (advF F B) B) (fun r F B => if (r = 0 ∨ r = 1) then some (r, F, B) else none) := by
  unfold fb_Parser_takeItem
  rw [if_pos ⟨(by first | decide | omega), hX.1⟩, if_pos hx, hk, hX.2.2.1, if_pos (by decide), if_neg (by decide), if_neg (by decide), if_pos ⟨(by first | decide | omega), hX.2.1⟩, C_adv hX]
  simp only [zb_s, hk]
  rfl
theorem C_item1 {o : oT_CP} {K : zK} {F : zF} {B : zB} {x : Int} (hX : CX K F B) (hx : 0 ≤ x ∧ x < 3000) (hk : B 3 0 0 x = 1) : fb_Parser_takeItem o K 0 x F B = some (1, advF F B, B) := by
  unfold fb_Parser_takeItem
  rw [if_pos ⟨(by first | decide | omega), hX.1⟩, if_pos hx, hk, hX.2.2.1, if_pos (by decide), if_neg (by decide), if_neg (by decide), if_pos ⟨(by first | decide | omega), hX.2.1⟩, C_adv hX]
  simp only [zb_s, hk]
  rfl
theorem C_itemS {o : oT_CP} {K : zK} {F : zF} {B : zB} {x : Int} (hX : CX K F B) (hx : 0 ≤ x ∧ x < 3000) (hk : B 3 0 0 x = 9) : fb_Parser_takeItem o K 0 x F B = zbind (f_Parser_takeFraction K 0 x 1 8 (advF F B) B) (fun r29 F29 B29 => if r32 r29 then (if r29 = 0 then some (0, F29, B29) else zbind (o.1 0 x F29 B29) (fun r33 F33 B33 => if r32 r33 then (if r33 = 0 then some (0, F33, B33) else some (1, F33, B33)) else none)) else none) := by
  unfold fb_Parser_takeItem
  rw [if_pos ⟨(by first | decide | omega), hX.1⟩, if_pos hx, hk, hX.2.2.1, if_pos (by decide), if_neg (by decide), if_neg (by decide), if_pos ⟨(by first | decide | omega), hX.2.1⟩, C_adv hX]
  simp only [zb_s, hk]
  rfl
theorem C_itemE {o : oT_CP} {K : zK} {F : zF} {B : zB} {x : Int} (hX : CX K F B) (hx : 0 ≤ x ∧ x < 3000) (hk : B 3 0 0 x = 0) : fb_Parser_takeItem o K 0 x F B = zbind (f_Parser_takeEvent K 0 x F B) (fun r F B => if (r = 0 ∨ r = 1) then some (r, F, B) else none) := by
  unfold fb_Parser_takeItem
  rw [if_pos ⟨(by first | decide | omega), hX.1⟩, if_pos hx, hk, if_pos (by decide), if_pos rfl]
theorem C_itemT {o : oT_CP} {K : zK} {F : zF} {B : zB} {x : Int} (hX : CX K F B) (hx : 0 ≤ x ∧ x < 3000) (hk : B 3 0 0 x = 3) : fb_Parser_takeItem o K 0 x F B = zbind (o.2.2.2.1 0 x F B) (fun r F B => if (r = 0 ∨ r = 1) then some (r, F, B) else none) := by
  unfold fb_Parser_takeItem
  rw [if_pos ⟨(by first | decide | omega), hX.1⟩, if_pos hx, hk, if_pos (by decide), if_neg (by decide), if_pos rfl]
/-- a block of the item x, as later worlds see it -/
theorem BK_of {L : Int} {d' n : Nat} {x a j' lo hi pl ph hi' pl' ph' i e' : Int} {B' Bm' Bx By : zB} (ab : agB L x hi' pl' ph' x B' Bx) (am : agM L i e' Bm' By) (hs : SLR L d' n (B' 3 0 4 x) (a + 1) (j' - 1) lo hi pl ph B' Bm') (h30 : Bm' 14 0 30 a = j' - 1) (h1 : x < lo) (h2 : hi ≤ hi') (h3 : pl' ≤ pl) (h4 : ph ≤ ph') (h5 : i ≤ a) (h6 : j' ≤ e') (h7 : a + 2 ≤ j') (h8 : lo ≤ hi) (h9 : j' ≤ 3001) : BKf (IRd L d') Bx By x a := by
  have e30 : By 14 0 30 a = j' - 1 := by rw [am.1 30 a (by decide) (by decide) h5 (by first | decide | omega)]; exact h30
  have e4 : Bx 3 0 4 x = B' 3 0 4 x := ab.1 4 x (by decide) (Int.le_refl _) (by first | decide | omega) (fun z => absurd z.1 (by decide))
  refine ⟨(by first | decide | omega), (by first | decide | omega), n, ?_⟩
  rw [e30, e4]
  exact hs Bx By (agB_m ab (by first | decide | omega) h2 h3 h4 (Or.inr (Or.inl (by first | decide | omega)))) (agM_m am (by first | decide | omega) (by first | decide | omega))
/-- behind a block the item ends: its outcome, from the block's -/
theorem IPO_B {L : Int} {d : Nat} {N j x jb r : Int} {F F0 : zF} {B B0 : zB} {Fm Fm0 : zF} {Bm : zB} {F' : zF} {B' : zB} {Fm' : zF} {Bm' : zB} (h : BPO L d N jb x F0 B0 Fm0 Bm r F' B' Fm' Bm') (hN : N ≤ 3000) (hj : j < jb) (hx : x + 1 = F 3 0 14) (gF : fF F F0) (gG : fG Fm Fm0) (gB : fB x (F 3 0 15) B B0) (e14 : F0 3 0 14 = F 3 0 14) (e15 : F0 3 0 15 = F 3 0 15) (e18 : F0 3 0 18 = F 3 0 18) (h5 : B0 3 0 5 x = -1) (hI : ∀ j' n Bx By, jb + 2 ≤ j' → agB L x (F' 3 0 14) (F 3 0 15) (F' 3 0 15) x B' Bx → agM L j j' (zup4 Bm' 14 0 31 j j') By → BKf (IRd L (d - 1)) Bx By x jb → SLR L (d - 1) n (B' 3 0 4 x) (jb + 1) (j' - 1) (F 3 0 14) (F' 3 0 14) (F 3 0 15) (F' 3 0 15) B' Bm' → Bm' 14 0 30 jb = j' - 1 → By 14 0 31 j = j' → (∀ k, k ≤ 7 → k ≠ 5 → Bx 3 0 k x = B' 3 0 k x) → (∀ k, 7 ≤ k → k ≤ 11 → By 14 0 k = Bm 14 0 k) → (∀ k, k ≤ 7 → k ≠ 4 → B' 3 0 k x = B0 3 0 k x) → IRn (IRd L (d - 1)) Bx By x j) : r = 0 ∨ r = 1 → IPO L d N j x F B Fm Bm r F' B' Fm' (zup4 Bm' 14 0 31 j (Fm' 14 0 16)) := by
  intro hr
  obtain ⟨g1, g2, g3, g4, g5⟩ := h
  have hH : fH j Bm' (zup4 Bm' 14 0 31 j (Fm' 14 0 16)) := fH_u fH_r (by decide) (by decide) (Int.le_refl _)
  rw [e14, e15] at g3
  have gK : fB x (F 3 0 15) B B' := fun c i k y a b => by
    rw [g3 c i k y (fun z => a ⟨z.1, z.2.1, z.2.2.1, by have := z.2.2.2; omega⟩) b (fun z => a ⟨z.1, z.2.1, by have := z.2.2.1; omega, by have := z.2.2.2; omega⟩)]
    exact gB c i k y a b
  refine ⟨fF_t gF g1, fG_t gG g2, gK, fH_t (fH_m g4 (by first | decide | omega)) hH, ?_⟩
  rcases g5 with ⟨rfl, j', n, v1, v2, v3, v4, v5, v6, v7, v8⟩ | er
  · left
    refine ⟨rfl, Or.inl ⟨j', (by first | decide | omega), PS_f (lo := 0) (pl := 0) v2 fB_r hH, ?_, (by first | decide | omega), (by first | decide | omega), (by first | decide | omega), ?_, ?_⟩⟩
    · simp [zup4_v]; exact v2.2.2.1
    · rw [g3 3 0 5 x (fun z => by have := z.2.2.2; omega) (fun z => absurd z.2.2.1 (by decide)) (fun z => absurd z.2.2.1 (by decide))]; exact h5
    · intro Bx By ab am
      rw [v2.2.2.1] at am
      rw [e14, e15] at v7
      have w30 : (zup4 Bm' 14 0 31 j j') 14 0 30 jb = j' - 1 := by simp [zup4_v]; exact v3
      have hs : SLR L (d - 1) n (B' 3 0 4 x) (jb + 1) (j' - 1) (F 3 0 14) (F' 3 0 14) (F 3 0 15) (F' 3 0 15) B' (zup4 Bm' 14 0 31 j j') := SLR_t v7 agB_r ⟨fun k y p q a b => by rw [zup4_v, if_neg (fun z => by have := z.2.2.2; omega)], fun k p q => by funext y; rw [zup4_v, if_neg (fun z => by have := z.2.2.1; omega)], fun q p a => by rw [zup4_v, if_neg (fun z => absurd z.2.2.1 (by decide))]⟩
      have bk := BK_of ab am hs w30 (by first | decide | omega) (Int.le_refl _) (Int.le_refl _) (Int.le_refl _) (by first | decide | omega) (Int.le_refl _) (by first | decide | omega) (by first | decide | omega) (by have := v2.2.1.1.2; omega)
      have e31 : By 14 0 31 j = j' := by rw [am.1 31 j (by decide) (by decide) (Int.le_refl _) (by first | decide | omega)]; simp [zup4_v]
      have w : ∀ k, 7 ≤ k → k ≤ 11 → By 14 0 k = Bm 14 0 k := fun k p q => by
        rw [am.2.1 k p q]
        funext y
        rw [zup4_v, if_neg (fun z => by have := z.2.2.1; omega), fH_k g4 k (by first | decide | omega)]
      have res := hI j' n Bx By v1 ab am bk v7 v3 e31 (fun k p q => ab.1 k x p (Int.le_refl _) (by first | decide | omega) (fun z => q z.1)) w (fun k p q => g3 3 0 k x (fun z => by have := z.2.2.2; omega) (fun z => by have := z.2.2.1; omega) (fun z => q z.2.2.1))
      obtain ⟨d', rfl⟩ : ∃ y, d = y + 1 := ⟨d - 1, (by first | decide | omega)⟩
      exact Or.inr res
  · exact Or.inr er
end
