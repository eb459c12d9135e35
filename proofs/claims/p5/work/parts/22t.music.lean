section
section
/-! ===== items one behind the other, on both sides ===== -/
/-- the lets told so far -/
noncomputable def LT (L : Int) (F : zF) (B : zB) (Fm : zF) (Bm : zB) : Prop := F 3 0 16 = L ∧ Fm 14 0 27 = L ∧ (0 ≤ L ∧ L ≤ 6) ∧ ∀ q, 0 ≤ q → q < L → B 3 0 12 q = Bm 14 0 25 q ∧ r64 (B 3 0 12 q) ∧ 0 ≤ B 3 0 13 q ∧ B 3 0 13 q < 3000
/-- the class's rows change at items from lo on, at pitches from pl on, and at one cell more -/
noncomputable def fK (k0 : Nat) (x0 lo pl : Int) (B B' : zB) : Prop := ∀ c i k y, ¬ (c = 3 ∧ i = 0 ∧ k ≤ 7 ∧ lo ≤ y) → ¬ (c = 3 ∧ i = 0 ∧ 8 ≤ k ∧ k ≤ 10 ∧ pl ≤ y) → ¬ (c = 3 ∧ i = 0 ∧ k = k0 ∧ y = x0) → B' c i k y = B c i k y
noncomputable def fJ (fr j : Int) (B B' : zB) : Prop := ∀ c i k x, ¬ (c = 14 ∧ i = 0 ∧ 30 ≤ k ∧ k ≤ 34 ∧ j ≤ x) → ¬ (c = 14 ∧ i = 0 ∧ k = 30 ∧ x = fr) → B' c i k x = B c i k x
theorem fK_t {k0 : Nat} {x0 lo pl : Int} {B B' B'' : zB} (h : fK k0 x0 lo pl B B') (h' : fK k0 x0 lo pl B' B'') : fK k0 x0 lo pl B B'' := fun c i k y a b d => by rw [h' c i k y a b d, h c i k y a b d]
theorem fK_r {k0 : Nat} {x0 lo pl : Int} {B : zB} : fK k0 x0 lo pl B B := fun _ _ _ _ _ _ _ => rfl
theorem fK_B {k0 : Nat} {x0 lo pl lo' pl' : Int} {B B' : zB} (h : fB lo' pl' B B') (h1 : lo ≤ lo') (h2 : pl ≤ pl') : fK k0 x0 lo pl B B' := fun c i k y a b _ => h c i k y (fun z => a ⟨z.1, z.2.1, z.2.2.1, by omega⟩) (fun z => b ⟨z.1, z.2.1, z.2.2.1, z.2.2.2.1, by omega⟩)
theorem fK_K {k0 k1 : Nat} {x0 x1 lo pl lo' pl' : Int} {B B' : zB} (h : fK k1 x1 lo' pl' B B') (h1 : lo ≤ lo') (h2 : pl ≤ pl') (h3 : k1 = k0 ∧ x1 = x0 ∨ k1 ≤ 7 ∧ lo ≤ x1) : fK k0 x0 lo pl B B' := fun c i k y a b d => h c i k y (fun z => a ⟨z.1, z.2.1, z.2.2.1, by omega⟩) (fun z => b ⟨z.1, z.2.1, z.2.2.1, z.2.2.2.1, by omega⟩) (fun z => by
  rcases h3 with q | q
  · exact d ⟨z.1, z.2.1, z.2.2.1.trans q.1, z.2.2.2.trans q.2⟩
  · exact a ⟨z.1, z.2.1, by rw [z.2.2.1]; exact q.1, by rw [z.2.2.2]; exact q.2⟩)
theorem fK_c {k0 : Nat} {x0 lo pl v : Int} {B B' : zB} (h : fK k0 x0 lo pl B B') : fK k0 x0 lo pl B (zup4 B' 3 0 k0 x0 v) := fun c i k y a b d => by
  rw [zup4_v, if_neg d]; exact h c i k y a b d
theorem fK_u {k0 k : Nat} {x0 lo pl x v : Int} {B B' : zB} (h : fK k0 x0 lo pl B B') (hk : k ≤ 7) (hx : lo ≤ x) : fK k0 x0 lo pl B (zup4 B' 3 0 k x v) := fun c i q y a b d => by
  rw [zup4_v, if_neg]
  · exact h c i q y a b d
  · rintro ⟨rfl, rfl, rfl, rfl⟩
    exact a ⟨rfl, rfl, hk, hx⟩
theorem fK_10 {k0 : Nat} {x0 lo pl : Int} {B B' : zB} (h : fK k0 x0 lo pl B B') (k : Nat) : B' 10 0 k = B 10 0 k := by
  funext x; exact h 10 0 k x (fun z => absurd z.1 (by decide)) (fun z => absurd z.1 (by decide)) (fun z => absurd z.1 (by decide))
theorem fJ_t {fr j : Int} {B B' B'' : zB} (h : fJ fr j B B') (h' : fJ fr j B' B'') : fJ fr j B B'' := fun c i k x a b => by rw [h' c i k x a b, h c i k x a b]
theorem fJ_H {fr j j' : Int} {B B' : zB} (h : fH j' B B') (h1 : j ≤ j') : fJ fr j B B' := fun c i k x a _ => h c i k x (fun z => a ⟨z.1, z.2.1, z.2.2.1, z.2.2.2.1, by omega⟩)
theorem fJ_m {fr j j' : Int} {B B' : zB} (h : fJ fr j' B B') (h1 : j ≤ j') : fJ fr j B B' := fun c i k x a b => h c i k x (fun z => a ⟨z.1, z.2.1, z.2.2.1, z.2.2.2.1, by omega⟩) b
theorem fJ_k {fr j : Int} {B B' : zB} (h : fJ fr j B B') (k : Nat) (hk : k ≤ 29) : B' 14 0 k = B 14 0 k := by
  funext x; exact h 14 0 k x (fun z => by have := z.2.2.1; omega) (fun z => by have := z.2.2.1; omega)
theorem fJ_fH {fr j : Int} {B B' : zB} (h : fJ fr j B B') (h1 : fr ≤ j) : fH fr B B' := fun c i k x a => h c i k x (fun z => a ⟨z.1, z.2.1, z.2.2.1, z.2.2.2.1, by omega⟩) (fun z => a ⟨z.1, z.2.1, by omega, by omega, by omega⟩)
theorem EV_k {K : zK} {Km : Nat} {N x0 lo pl fr j : Int} {k0 : Nat} {B B' Bm Bm' : zB} (h : EV K Km N B Bm) (hB : fK k0 x0 lo pl B B') (hm : fJ fr j Bm Bm') : EV K Km N B' Bm' := EV_B h (fK_10 hB) (fun k hk => fJ_k hm k (by omega))
theorem PS_k {N j0 x0 lo pl fr j : Int} {k0 : Nat} {F : zF} {B B' : zB} {Fm : zF} {Bm Bm' : zB} (h : PS N j0 F B Fm Bm) (hB : fK k0 x0 lo pl B B') (hm : fJ fr j Bm Bm') : PS N j0 F B' Fm Bm' := PS_B h (fK_10 hB) (fun k hk => fJ_k hm k (by omega))
theorem LT_k {L x0 lo pl fr j : Int} {k0 : Nat} {F F' : zF} {B B' : zB} {Fm Fm' : zF} {Bm Bm' : zB} (h : LT L F B Fm Bm) (hF : fF F F') (hG : fG Fm Fm') (hB : fK k0 x0 lo pl B B') (hk : k0 ≤ 7) (hm : fJ fr j Bm Bm') : LT L F' B' Fm' Bm' := by
  obtain ⟨a, b, c, e⟩ := h
  refine ⟨?_, ?_, c, fun q q0 q1 => ?_⟩
  · rw [hF 3 0 16 (by decide) (by decide)]; exact a
  · rw [hG 14 0 27 (by decide)]; exact b
  · have r : ∀ k, 11 ≤ k → B' 3 0 k q = B 3 0 k q := fun k h11 => hB 3 0 k q (fun z => by have := z.2.2.1; omega) (fun z => by have := z.2.2.2.1; omega) (fun z => by have := z.2.2.1; omega)
    rw [r 12 (by decide), r 13 (by decide), fJ_k hm 25 (by decide)]
    exact e q q0 q1
theorem fB_K {lo pl : Int} {B B' : zB} (h : fB lo pl B B') : fK 0 (lo) lo pl B B' := fK_B h (Int.le_refl _) (Int.le_refl _)
theorem newB_k {k0 : Nat} {x0 lo pl x s p : Int} {B B' : zB} (h : fK k0 x0 lo pl B B') (hx : lo ≤ x) : fK k0 x0 lo pl B (newB B' x s p) := fK_u (fK_u (fK_u (fK_u (fK_u (fK_u (fK_u (fK_u h (by decide) hx) (by decide) hx) (by decide) hx) (by decide) hx) (by decide) hx) (by decide) hx) (by decide) hx) (by decide) hx
/-- an item of level d is taken alike -/
noncomputable def ItemSim (L : Int) (K : zK) (Km : Nat) (N : Int) (d : Nat) (oC : Int → Int → zF → zB → zO) (oM : zF → zB → zO) : Prop := ∀ {x j : Int} {F : zF} {B : zB} {Fm : zF} {Bm : zB}, 0 ≤ x → x < 3000 → x + 1 = F 3 0 14 → F 3 0 14 ≤ j + 1 → EV K Km N B Bm → PS N j F B Fm Bm → F 3 0 18 + d = 8 → 1 ≤ F 3 0 18 → LT L F B Fm Bm → fresh B Bm x j (isrt (F 10 0 0) (F 10 0 2)) → ¬ isrt (F 10 0 0) (F 10 0 2) = -1 → zP (oC 0 x F B) (oM Fm Bm) (fun r F' B' _ Fm' Bm' => IPO L d N j x F B Fm Bm r F' B' Fm' Bm')
/-- where no item begins the reference tells it -/
noncomputable def ItemBad (K : zK) (Km : Nat) (N : Int) (oM : zF → zB → zO) : Prop := ∀ {j : Int} {F : zF} {B : zB} {Fm : zF} {Bm : zB}, EV K Km N B Bm → PS N j F B Fm Bm → isrt (F 10 0 0) (F 10 0 2) = -1 → ∃ r, oM Fm Bm = some (r, errM Fm Bm (wr Bm j), zup4 Bm 14 0 31 j j)
/-- items are taken up to the closing sign, and the sign too -/
noncomputable def OKM (L : Int) (d : Nat) (N j fr x0 : Int) (k0 : Nat) (F : zF) (F' : zF) (B' : zB) (Fm' : zF) (Bm' : zB) : Prop := ∃ j' n, j < j' ∧ PS N j' F' B' Fm' Bm' ∧ Bm' 14 0 30 fr = j' - 1 ∧ F' 3 0 18 = F 3 0 18 - 1 ∧ (F 3 0 14 ≤ F' 3 0 14 ∧ F' 3 0 14 - F 3 0 14 ≤ j' - 1 - j) ∧ F 3 0 15 ≤ F' 3 0 15 ∧ SLR L d n (B' 3 0 k0 x0) j (j' - 1) (F 3 0 14) (F' 3 0 14) (F 3 0 15) (F' 3 0 15) B' Bm'
theorem refF_18 {F : zF} {s v : Int} (Fm : zF) : ERR (refF F s) Fm → ERR (refF (zup3 F 3 0 18 v) s) Fm := by
  unfold ERR refF
  simp only [zup3_v]
  simp
theorem isrt_c {k v c : Int} (hc : c = 125 ∨ c = 93) (h5 : k = 5) (hv : v = c) : isrt k v = -1 := by
  unfold isrt
  subst h5
  rcases hc with rfl | rfl <;> subst hv <;> decide
theorem isrt_m {k v : Int} (h5 : k = 5) (hv : ¬ mkv v = 0) : isrt k v = -1 ∧ ¬ v = 125 ∧ ¬ v = 93 := by
  have h : v = 126 ∨ v = 40 ∨ v = 41 ∨ v = 39 ∨ v = 94 ∨ v = 45 ∨ v = 37 := by
    unfold mkv at hv
    by_cases a : v = 126
    · exact Or.inl a
    · by_cases a2 : v = 40
      · omega
      · by_cases a3 : v = 41
        · omega
        · by_cases a4 : v = 39
          · omega
          · by_cases a5 : v = 94
            · omega
            · by_cases a6 : v = 45
              · omega
              · by_cases a7 : v = 37
                · omega
                · simp [a, a2, a3, a4, a5, a6, a7] at hv
  subst h5
  rcases h with rfl | rfl | rfl | rfl | rfl | rfl | rfl <;> decide
theorem SLR_0 {L : Int} {d : Nat} {j lo hi pl ph : Int} {B Bm : zB} : SLR L d 0 (-1) j j lo hi pl ph B Bm := fun _ _ _ _ => ⟨rfl, rfl⟩
theorem SLR_1 {L : Int} {d n : Nat} {x j j1 e hi hi' pl ph ph' fr : Int} {B1 Bm1 B2 Bm2 : zB} (hx : 0 ≤ x ∧ x < 3000) (hj : j < j1) (he : j1 ≤ e) (h31 : Bm1 14 0 31 j = j1) (hI : SIR L d x j hi pl ph j1 B1 Bm1) (hR : SLR L d n (B2 3 0 5 x) j1 e hi hi' ph ph' B2 Bm2) (hK : fK 5 x hi ph B1 B2) (hJ : fJ fr j1 Bm1 Bm2) (hf : fr < j) (h1 : x < hi) (h2 : hi ≤ hi') (h3 : pl ≤ ph) (h4 : ph ≤ ph') : SLR L d (n + 1) x j e x hi' pl ph' B2 Bm2 := by
  intro Bx By a b
  have e31 : By 14 0 31 j = j1 := by
    rw [b.1 31 j (by decide) (by decide) (Int.le_refl _) (by omega), hJ 14 0 31 j (fun z => by have := z.2.2.2.2; omega) (fun z => absurd z.2.2.1 (by decide))]; exact h31
  have e5 : Bx 3 0 5 x = B2 3 0 5 x := a.1 5 x (by decide) (Int.le_refl _) (by omega) (fun z => by have := z.2; omega)
  have aK : agB L x hi pl ph x B1 B2 := ⟨fun k y p q r s => hK 3 0 k y (fun z => by have := z.2.2.2; omega) (fun z => by have := z.2.2.1; omega) (fun z => s ⟨z.2.2.1, z.2.2.2⟩), fun k y p q r s => hK 3 0 k y (fun z => by have := z.2.2.1; omega) (fun z => by have := z.2.2.2.2; omega) (fun z => by have := z.2.2.1; omega), fun q p r => hK 3 0 13 q (fun z => absurd z.2.2.1 (by decide)) (fun z => absurd z.2.2.2.1 (by decide)) (fun z => absurd z.2.2.1 (by decide))⟩
  have aJ : agM L j j1 Bm1 Bm2 := ⟨fun k y p q r s => hJ 14 0 k y (fun z => by have := z.2.2.2.2; omega) (fun z => by have := z.2.2.2; omega), fun k p q => fJ_k hJ k (by omega), fun q p r => hJ 14 0 25 q (fun z => absurd z.2.2.1 (by decide)) (fun z => absurd z.2.2.1 (by decide))⟩
  have ax : agB L x hi pl ph x B2 Bx := ⟨fun k y p q r s => a.1 k y p q (by omega) (fun z => by have := z.2; omega), fun k y p q r s => a.2.1 k y p q (by omega) (by omega), a.2.2⟩
  refine ⟨hx, ?_, hI Bx By (agB_t aK ax) (agM_t aJ (agM_m b (Int.le_refl _) he)), ?_⟩
  · rw [e31]; omega
  · rw [e31, e5]
    exact hR Bx By (agB_m a (by omega) (Int.le_refl _) (by omega) (Int.le_refl _) (Or.inl rfl)) (agM_m b (by omega) (Int.le_refl _))
end
end
section
section
/-! ===== the music of a block, on both sides ===== -/
theorem zup3_comm {F : zF} {c c' k k' : Nat} {i i' v v' : Int} (h : ¬ (c = c' ∧ i = i' ∧ k = k')) : zup3 (zup3 F c i k v) c' i' k' v' = zup3 (zup3 F c' i' k' v') c i k v := by
  funext a b d
  simp only [zup3_v]
  by_cases p : a = c' ∧ b = i' ∧ d = k'
  · by_cases q : a = c ∧ b = i ∧ d = k
    · exact absurd ⟨q.1.symm.trans p.1, q.2.1.symm.trans p.2.1, q.2.2.symm.trans p.2.2⟩ h
    · rw [if_pos p, if_neg q, if_pos p]
  · rw [if_neg p]
    by_cases q : a = c ∧ b = i ∧ d = k
    · rw [if_pos q, if_pos q]
    · rw [if_neg q, if_neg q, if_neg p]
theorem DEL_CX {K : zK} {Km : Nat} {N : Int} {F : zF} {B : zB} {Fm : zF} {Bm : zB} (hE : EV K Km N B Bm) (h : DEL N F B Fm Bm) : CX K F B := by
  obtain ⟨⟨n0, n1, hT⟩, hW, h5, k3, k10, k1, km⟩ := hE
  obtain ⟨e11, hw, ⟨j, ⟨j0, j1⟩, hk, hp, hv, hs, hx⟩, _⟩ := h
  obtain ⟨a1, a2, a3, a4, a5, a6, a7, a8, a9, a10, a11⟩ := hT j j0 j1
  refine ⟨k3, k10, e11, by omega, by omega, ?_, h5, k1⟩
  rw [hx]
  split <;> omega
theorem DEL_ERR {K : zK} {Km : Nat} {N v : Int} {F : zF} {B : zB} {Fm : zF} {Bm : zB} (hE : EV K Km N B Bm) (h : DEL N F B Fm Bm) : ERR (refF (zup3 F 3 0 18 v) 2) Fm := by
  obtain ⟨e11, hw, ⟨j, ⟨j0, j1⟩, _, hp, _⟩, h5, hm, h17, h18⟩ := h
  have tp := (hE.1.2.2 j j0 j1).2.2.2.2.2.2.2.2.2.1
  unfold ERR refF bad
  simp only [zup3_v]
  simp
  rw [h17, h18, if_neg (by omega)]
  omega
theorem C_mus0 {o : oT_CP} {K : zK} {m : Nat} {i last par : Int} {F : zF} {B : zB} (hX : CX K F B) (hi : r32 i) (hs : isrt (F 10 0 0) (F 10 0 2) = -1) : f_Parser_takeMusic_4 o K (m + 1) i last 0 par F B = some (1, F, B) := by
  unfold f_Parser_takeMusic_4
  rw [if_pos hi]
  by_cases a : 3000 ≤ i
  · rw [if_pos a]
  · rw [if_neg a, if_pos ⟨by omega, hX.1⟩, C_itemSort hX]
    simp only [zb_s]
    rw [hs, if_pos (by decide), if_pos rfl]
theorem newB_at {B : zB} {x s p : Int} : (newB B x s p) 3 0 0 x = s ∧ (newB B x s p) 3 0 1 x = p ∧ (newB B x s p) 3 0 2 x = 0 ∧ (newB B x s p) 3 0 3 x = -1 ∧ (newB B x s p) 3 0 4 x = -1 ∧ (newB B x s p) 3 0 5 x = -1 ∧ (newB B x s p) 3 0 6 x = 0 ∧ (newB B x s p) 3 0 7 x = 0 := by
  unfold newB
  simp [zup4_v]
theorem P_music {L : Int} {d : Nat} {K : zK} {Km : Nat} {N c fr : Int} {o : oT_CP} {oM : zF → zB → zO} {lp : Nat → zF → zB → zO} {kc : Int → zF → zB → zO} (hI : ItemSim L K Km N d o.2.2.1 oM) (hB : ItemBad K Km N oM) (hc : c = 125 ∨ c = 93) (hfr : 0 ≤ fr) (hlp : ∀ n F B, lp (n + 1) F B = zbind (f_M_good Km F B) (fun r2 F2 B2 => if r32 r2 then (if r2 = 0 then zbind (f_M_closing Km fr c F2 B2) (fun _ F9 B9 => some (0, F9, B9)) else zbind (f_M_isSign Km c F2 B2) (fun r5 F5 B5 => if r32 r5 then (if r5 = 0 then zbind (oM F5 B5) (fun _ F8 B8 => lp n F8 B8) else zbind (f_M_closing Km fr c F5 B5) (fun _ F9 B9 => some (0, F9, B9))) else none)) else none)) (hk0 : ∀ F B, kc 0 F B = some (0, F, B)) (hk1 : ∀ F B, CX K F B → kc 1 F B = if sgn F c = 0 then some (0, refF (zup3 F 3 0 18 (F 3 0 18 - 1)) 2, B) else some (1, advF (zup3 F 3 0 18 (F 3 0 18 - 1)) B, B)) : ∀ {q m m' : Nat} {i last par j x0 : Int} {k0 : Nat} {F : zF} {B : zB} {Fm : zF} {Bm : zB}, N - j < q → q < m → q < m' → 0 ≤ i → i ≤ j → fr < j → (last = -1 ∧ k0 = 4 ∧ x0 = par ∨ last = x0 ∧ k0 = 5) → 0 ≤ x0 → x0 < F 3 0 14 → (0 ≤ par ∧ par < 3000) → F 3 0 14 ≤ j → EV K Km N B Bm → PS N j F B Fm Bm → F 3 0 18 + d = 8 → 1 ≤ F 3 0 18 → LT L F B Fm Bm → B 3 0 k0 x0 = -1 → zP (zbind (f_Parser_takeMusic_4 o K m i last 0 par F B) kc) (lp m' Fm Bm) (fun r F' B' _ Fm' Bm' => fF F F' ∧ fG Fm Fm' ∧ fK k0 x0 (F 3 0 14) (F 3 0 15) B B' ∧ fJ fr j Bm Bm' ∧ (r = 1 ∧ OKM L d N j fr x0 k0 F F' B' Fm' Bm' ∨ r = 0 ∧ ERR F' Fm')) := by
  have rc : r32 c := by omega
  -- the reference's loop in a bad state
  have lpB : ∀ {n : Nat} {F : zF} {B : zB}, 0 < n → bad F → lp n F B = some (0, F, B) := by
    intro n F B hn hb
    obtain ⟨n, rfl⟩ : ∃ y, n = y + 1 := ⟨n - 1, by omega⟩
    rw [hlp, L_goodB hb]
    simp only [zb_s]
    rw [if_pos (by decide), if_pos trivial, L_closingB hb]
    rfl
  intro q
  induction q with
  | zero =>
    intro m m' i last par j x0 k0 F B Fm Bm hN _ _ _ _ _ _ _ _ _ _ _ hS
    have := hS.2.1.1
    omega
  | succ q ih =>
    intro m m' i last par j x0 k0 F B Fm Bm hN hm hm' i0 i1 hfj hl x00 x01 hpar hit hE hS hd hd1 hLT hcell
    obtain ⟨m, rfl⟩ : ∃ y, m = y + 1 := ⟨m - 1, by omega⟩
    obtain ⟨m', rfl⟩ : ∃ y, m' = y + 1 := ⟨m' - 1, by omega⟩
    have hg := hS.2.2.2.1
    have hX := PS_CX hE hS
    have hM := PS_MX hE hS
    have jj := hS.2.1.1
    have nn := hE.1.2.1
    have ek := hS.2.1.2.1
    have ep := hS.2.1.2.2.1
    have ev := hS.2.1.2.2.2.1
    have hdd := hS.2.2.2.2.2.1
    have k3 := hE.2.2.2.1
    have tk := hE.1.2.2 j jj.1 jj.2
    have s := sgm_r Bm j c
    by_cases hs : isrt (F 10 0 0) (F 10 0 2) = -1
    · rw [C_mus0 hX (by omega) hs, hlp, L_good hg]
      simp only [zb_s]
      rw [hk1 F B hX, PS_sg hE hS, if_pos (show r32 1 by decide), if_neg (show ¬ (1 : Int) = 0 by decide), L_isSign hM rc]
      simp only [zb_s]
      rw [if_pos (show r32 (sgm Bm j c) by omega)]
      by_cases z : sgm Bm j c = 0
      · obtain ⟨r, e⟩ := hB hE hS hs
        have er := PS_err2 hE hS
        rw [if_pos z, if_pos z, e]
        simp only [zb_s]
        rw [lpB (by omega) er.2]
        exact zP_s ⟨fF_e (fF_u fF_r (by decide)), fG_e fG_r, fK_r, fJ_H (fH_u fH_r (by decide) (by decide) (Int.le_refl _)) (Int.le_refl _), Or.inr ⟨rfl, refF_18 _ er⟩⟩
      · have z' := Decidable.not_not.mp (mt sgm_0.mpr z)
        rw [if_neg z, if_neg z, L_closing hg hM rc (by omega), if_neg z]
        simp only [zb_s]
        have hS1 := PS_step hE (PS_d (d := F 3 0 18 - 1) hS (by omega) (PS_pw hS hd1)) (by omega)
        have e19 : Fm 14 0 19 = F 3 0 18 := hdd.1.symm
        have hJ : fJ fr j Bm (zup4 Bm 14 0 30 fr j) := fun c' i' k' x' a b => by rw [zup4_v, if_neg (fun w => b w)]
        rw [e19, zup3_comm (by decide)]
        refine zP_s ⟨fF_a (fF_u fF_r (by decide)), fG_u (fG_u fG_r (by decide) (by decide)) (by decide) (by decide), fK_r, hJ, Or.inl ⟨rfl, j + 1, 0, by omega, PS_k hS1 (fK_r (k0 := 0) (x0 := 0) (lo := 0) (pl := 0)) hJ, ?_, ?_, ?_, ?_, ?_⟩⟩
        · simp [zup4_v]
        · rw [advF_o (by decide)]; simp [zup3_v]
        · rw [advF_o (by decide)]; simp [zup3_v]
        · rw [advF_o (by decide)]; simp [zup3_v]
        · rw [hcell, show j + 1 - 1 = j by omega]; exact SLR_0
    · -- an item
      have hjN : j < N := by
        have : ¬ j = N := by
          intro w
          have k0' := tk.2.2.2.1.mpr w
          apply hs
          unfold isrt
          rw [ek, k0']
          rfl
        omega
      have z : sgm Bm j c = 0 := by
        refine sgm_0.mpr (fun w => hs (isrt_c hc (ek.trans w.1) ?_))
        rw [ev, (tk.2.2.2.2.2.2.2.1 w.1).1]; exact w.2
      have sr := isrt_r (F 10 0 0) (F 10 0 2)
      have hx14 : 0 ≤ F 3 0 14 ∧ F 3 0 14 < 3000 := by omega
      -- the class's world when the item is made
      have hK2 : fK k0 x0 (F 3 0 14) (F 3 0 15) B (zup4 (newB B (F 3 0 14) (isrt (F 10 0 0) (F 10 0 2)) (F 10 0 1)) 3 0 k0 x0 (F 3 0 14)) := fK_c (newB_k fK_r (Int.le_refl _))
      have hcls : f_Parser_takeMusic_4 o K (m + 1) i last 0 par F B = zbind (o.2.2.1 0 (F 3 0 14) (zup3 F 3 0 14 (F 3 0 14 + 1)) (zup4 (newB B (F 3 0 14) (isrt (F 10 0 0) (F 10 0 2)) (F 10 0 1)) 3 0 k0 x0 (F 3 0 14))) (fun r15 F15 B15 => if r32 r15 then (if r15 = 0 then some (0, F15, B15) else f_Parser_takeMusic_4 o K m (i + 1) (F 3 0 14) 0 par F15 B15) else none) := by
        rw [f_Parser_takeMusic_4]
        rw [if_pos (show r32 i by omega), if_neg (show ¬ 3000 ≤ i by omega), if_pos ⟨Int.le_refl _, k3⟩, C_itemSort hX]
        simp only [zb_s]
        rw [if_pos (show r32 (isrt (F 10 0 0) (F 10 0 2)) by omega), if_neg hs, C_newItem hX hx14]
        simp only [zb_s]
        unfold f_Parser_takeMusic_57
        rcases hl with ⟨rfl, rfl, rfl⟩ | ⟨rfl, rfl⟩
        · rw [if_pos (show r32 (-1) by decide), if_pos rfl, if_pos hpar, if_pos ⟨Int.le_refl _, k3⟩]
        · rw [if_pos (show r32 last by omega), if_neg (show ¬ last = -1 by omega), if_pos (show 0 ≤ last ∧ last < 3000 by omega), if_pos ⟨Int.le_refl _, k3⟩]
      have hS1 := PS_k (PS_u (k := 14) (v := F 3 0 14 + 1) hS (by decide)) hK2 (fJ_H (fr := fr) (j := j) fH_r (Int.le_refl _))
      have hE1 := EV_k hE hK2 (fJ_H (fr := fr) (j := j) fH_r (Int.le_refl _))
      have hLT1 := LT_k hLT (fF_u (k := 14) (v := F 3 0 14 + 1) fF_r (by decide)) fG_r hK2 (by omega) (fJ_H (fr := fr) (j := j) fH_r (Int.le_refl _))
      have a10 : ∀ k, (zup3 F 3 0 14 (F 3 0 14 + 1)) 10 0 k = F 10 0 k := fun k => by simp [zup3_v]
      have a14 : (zup3 F 3 0 14 (F 3 0 14 + 1)) 3 0 14 = F 3 0 14 + 1 := by simp [zup3_v]
      have a15 : (zup3 F 3 0 14 (F 3 0 14 + 1)) 3 0 15 = F 3 0 15 := by simp [zup3_v]
      have a18 : (zup3 F 3 0 14 (F 3 0 14 + 1)) 3 0 18 = F 3 0 18 := by simp [zup3_v]
      have hfresh : fresh (zup4 (newB B (F 3 0 14) (isrt (F 10 0 0) (F 10 0 2)) (F 10 0 1)) 3 0 k0 x0 (F 3 0 14)) Bm (F 3 0 14) j (isrt (F 10 0 0) (F 10 0 2)) := by
        have g : ∀ k, (zup4 (newB B (F 3 0 14) (isrt (F 10 0 0) (F 10 0 2)) (F 10 0 1)) 3 0 k0 x0 (F 3 0 14)) 3 0 k (F 3 0 14) = (newB B (F 3 0 14) (isrt (F 10 0 0) (F 10 0 2)) (F 10 0 1)) 3 0 k (F 3 0 14) := fun k => by rw [zup4_v, if_neg (fun w => by have := w.2.2.2; omega)]
        obtain ⟨b0, b1, b2, b3, b4, b5, b6, b7⟩ := newB_at (B := B) (x := F 3 0 14) (s := isrt (F 10 0 0) (F 10 0 2)) (p := F 10 0 1)
        unfold fresh
        rw [g, g, g, g, g, g, g, g]
        exact ⟨b0, b1.trans ep, b2, b3, b4, b5, b6, b7⟩
      rw [hcls, hlp, L_good hg, zb_a]
      simp only [zb_s]
      rw [if_pos (show r32 1 by decide), if_neg (show ¬ (1 : Int) = 0 by decide), L_isSign hM rc]
      simp only [zb_s]
      rw [if_pos (show r32 (sgm Bm j c) by omega), if_pos z]
      refine zP_c (hI (x := F 3 0 14) (j := j) (F := zup3 F 3 0 14 (F 3 0 14 + 1)) hx14.1 hx14.2 a14.symm (by omega) hE1 hS1 (by omega) (by omega) hLT1 (by rw [a10, a10]; exact hfresh) (by rw [a10, a10]; exact hs)) (fun r F1 B1 r' Fm1 Bm1 hh => ?_)
      obtain ⟨g1, g2, g3, g4, g5⟩ := hh
      rw [a15] at g3
      have gF : fF F F1 := fF_t (fF_u fF_r (by decide)) g1
      have gK : fK k0 x0 (F 3 0 14) (F 3 0 15) B B1 := fK_t hK2 (fK_B g3 (Int.le_refl _) (Int.le_refl _))
      have gJ : fJ fr j Bm Bm1 := fJ_H g4 (Int.le_refl _)
      have hE2 := EV_k hE gK gJ
      rcases g5 with ⟨rfl, ok | del⟩ | ⟨rfl, er⟩
      · obtain ⟨j1, y1, y2, y3, y4, y5, y6, y7, y8⟩ := ok
        rw [a14] at y5
        rw [a15] at y6 y8
        rw [a18] at y4
        rw [if_pos (show r32 1 by decide), if_neg (show ¬ (1 : Int) = 0 by decide)]
        have hLT2 := LT_k hLT gF g2 gK (by omega) gJ
        refine zP_m (ih (m := m) (m' := m') (i := i + 1) (last := F 3 0 14) (par := par) (j := j1) (x0 := F 3 0 14) (k0 := 5) (by omega) (by omega) (by omega) (by omega) (by omega) (by omega) (Or.inr ⟨rfl, rfl⟩) hx14.1 (by omega) hpar (by omega) hE2 y2 (by omega) (by omega) hLT2 y7) (fun r F' B' r' Fm' Bm' hh => ?_)
        obtain ⟨w1, w2, w3, w4, w5⟩ := hh
        refine ⟨fF_t gF w1, fG_t g2 w2, fK_t gK (fK_K w3 (by omega) (by omega) (Or.inr ⟨by decide, Int.le_refl _⟩)), fJ_t gJ (fJ_m w4 (by omega)), ?_⟩
        rcases w5 with ⟨rfl, j2, n, v1, v2, v3, v4, v5, v6, v7⟩ | er
        · refine Or.inl ⟨rfl, j2, n + 1, by omega, v2, v3, by omega, by omega, by omega, ?_⟩
          have ecell : B' 3 0 k0 x0 = F 3 0 14 := by
            rw [w3 3 0 k0 x0 (fun w => by have := w.2.2.2; omega) (fun w => by have := w.2.2.1; omega) (fun w => by have := w.2.2.2; omega), g3 3 0 k0 x0 (fun w => by have := w.2.2.2; omega) (fun w => by have := w.2.2.1; omega), zup4_v, if_pos ⟨rfl, rfl, rfl, rfl⟩]
          rw [ecell]
          exact SLR_1 hx14 y1 (by omega) y3 y8 v7 w3 w4 hfj (by omega) (by omega) (by omega) (by omega)
        · exact Or.inr er
      · obtain ⟨m, rfl⟩ : ∃ y, m = y + 1 := ⟨m - 1, by omega⟩
        have hX2 := DEL_CX hE2 del
        have em := isrt_m del.2.2.2.1 del.2.2.2.2.1
        rw [if_pos (show r32 1 by decide), if_neg (show ¬ (1 : Int) = 0 by decide), C_mus0 hX2 (by omega) em.1]
        simp only [zb_s]
        have hb1 : bad Fm1 := ⟨by have := del.2.2.2.2.2.1; omega, by have := del.2.2.2.2.2.1; omega⟩
        rw [hk1 _ _ hX2, if_pos (sgn_0.mpr (fun w => by have := w.2; omega)), lpB (by omega) hb1]
        exact zP_s ⟨fF_e (fF_u gF (by decide)), g2, gK, gJ, Or.inr ⟨rfl, DEL_ERR hE2 del⟩⟩
      · rw [if_pos (show r32 0 by decide), if_pos rfl]
        simp only [zb_s]
        rw [hk0, lpB (by omega) er.2]
        exact zP_s ⟨gF, g2, gK, gJ, Or.inr ⟨rfl, er⟩⟩
end
end
section
section
/-! ===== blocks and fractions, on both sides ===== -/
noncomputable def OKB (L : Int) (d : Nat) (N j x : Int) (F : zF) (F' : zF) (B' : zB) (Fm' : zF) (Bm' : zB) : Prop := ∃ j' n, j + 2 ≤ j' ∧ PS N j' F' B' Fm' Bm' ∧ Bm' 14 0 30 j = j' - 1 ∧ F' 3 0 18 = F 3 0 18 ∧ (F 3 0 14 ≤ F' 3 0 14 ∧ F' 3 0 14 - F 3 0 14 ≤ j' - j - 2) ∧ F 3 0 15 ≤ F' 3 0 15 ∧ SLR L (d - 1) n (B' 3 0 4 x) (j + 1) (j' - 1) (F 3 0 14) (F' 3 0 14) (F 3 0 15) (F' 3 0 15) B' Bm' ∧ 1 ≤ d
noncomputable def BPO (L : Int) (d : Nat) (N j x : Int) (F : zF) (B : zB) (Fm : zF) (Bm : zB) (r : Int) (F' : zF) (B' : zB) (Fm' : zF) (Bm' : zB) : Prop := fF F F' ∧ fG Fm Fm' ∧ fK 4 x (F 3 0 14) (F 3 0 15) B B' ∧ fH j Bm Bm' ∧ (r = 1 ∧ OKB L d N j x F F' B' Fm' Bm' ∨ r = 0 ∧ ERR F' Fm')
noncomputable def BlkSim (L : Int) (K : zK) (Km : Nat) (N : Int) (d : Nat) (oC : Int → Int → zF → zB → zO) (oM : zF → zB → zO) : Prop := ∀ {x j : Int} {F : zF} {B : zB} {Fm : zF} {Bm : zB}, 0 ≤ x → x < F 3 0 14 → F 3 0 14 ≤ j → EV K Km N B Bm → PS N j F B Fm Bm → F 3 0 18 + d = 8 → (F 3 0 20 = lenV (Fm 14 0 20) (Fm 14 0 21) ∧ pw2 (Fm 14 0 20) ∧ 0 ≤ Fm 14 0 21 ∧ Fm 14 0 21 ≤ 2) → LT L F B Fm Bm → B 3 0 4 x = -1 → zP (oC 0 x F B) (oM Fm Bm) (fun r F' B' _ Fm' Bm' => BPO L d N j x F B Fm Bm r F' B' Fm' Bm')
/-- a block in a bad state: nothing changes -/
noncomputable def BlkBad (oM : zF → zB → zO) : Prop := ∀ {Fm : zF} {Bm : zB}, bad Fm → oM Fm Bm = some (0, Fm, Bm)
theorem L_blockB {om : oT_P} {Km : Nat} (hK : 3002 ≤ Km) : BlkBad (fun F B => fb_M_block om Km F B) := by
  intro Fm Bm hb
  obtain ⟨m, rfl⟩ : ∃ y, Km = y + 1 := ⟨Km - 1, by omega⟩
  show fb_M_block om (m + 1) Fm Bm = _
  unfold fb_M_block
  rw [L_openingB hb]
  simp only [zb_s]
  unfold f_M_block_11 f_M_block_34
  rw [L_goodB hb]
  simp only [zb_s]
  rw [if_pos (by decide), if_pos trivial, L_closingB hb]
  rfl
theorem P_block {L : Int} {d : Nat} {K : zK} {Km : Nat} {N : Int} {o o' : oT_CP} {om : oT_P} (ho : ∀ l0 l1 F B, o.2.1 l0 l1 F B = fb_Parser_takeMusic o' K l0 l1 F B) (hI : ∀ d', d = d' + 1 → ItemSim L K Km N d' o'.2.2.1 om.2.1) (hB : ItemBad K Km N om.2.1) : BlkSim L K Km N d (fun l0 l1 F B => fb_Parser_takeBlock o K l0 l1 F B) (fun F B => fb_M_block om Km F B) := by
  intro x j F B Fm Bm x0 x1 hit hE hS hd hpw hLT hcell
  have hg := hS.2.2.2.1
  have hX := PS_CX hE hS
  have hM := PS_MX hE hS
  have jj := hS.2.1.1
  have nn := hE.1.2.1
  have hdd := hS.2.2.2.2.2.1
  have k3 := hE.2.2.2.1
  have k1 := hE.2.2.2.2.2.1
  have km := hE.2.2.2.2.2.2
  show zP (fb_Parser_takeBlock o K 0 x F B) (fb_M_block om Km Fm Bm) _
  unfold fb_Parser_takeBlock f_Parser_takeBlock_30 f_Parser_takeBlock_31 fb_M_block
  rw [if_pos ⟨by omega, k3⟩, C_takeOpening hX (by decide) hdd.2, L_opening hg hM (by decide) (by omega), PS_sg hE hS, hM.1]
  have lpB : ∀ {F : zF} {B : zB}, bad F → f_M_block_11 om Km Km j F B = some (0, F, B) := by
    intro F B hb
    obtain ⟨m, rfl⟩ : ∃ y, Km = y + 1 := ⟨Km - 1, by omega⟩
    unfold f_M_block_11 f_M_block_34
    rw [L_goodB hb]
    simp only [zb_s]
    rw [if_pos (by decide), if_pos trivial, L_closingB hb]
    rfl
  by_cases z : sgm Bm j 123 = 0
  · have er := PS_err2 hE hS
    rw [if_pos z, if_pos z]
    simp only [zb_s]
    rw [if_pos (by decide), if_pos trivial, if_pos (by decide), lpB er.2]
    exact zP_s ⟨fF_e fF_r, fG_e fG_r, fK_r, fH_r, Or.inr ⟨rfl, er⟩⟩
  · have z' := Decidable.not_not.mp (mt sgm_0.mpr z)
    rw [if_neg z, if_neg z]
    by_cases d8 : F 3 0 18 = 8
    · have er := PS_err (s := 3) (s' := 3) hE hS (by rw [if_neg (by omega)]) (by decide)
      rw [if_pos d8, if_pos (by omega)]
      simp only [zb_s]
      rw [if_pos (by decide), if_pos trivial, if_pos (by decide), lpB er.2]
      exact zP_s ⟨fF_e fF_r, fG_e fG_r, fK_r, fH_r, Or.inr ⟨rfl, er⟩⟩
    · rw [if_neg d8, if_neg (by omega)]
      simp only [zb_s]
      obtain ⟨d', rfl⟩ : ∃ y, d = y + 1 := ⟨d - 1, by omega⟩
      have hS1 := PS_step hE (PS_d (d := F 3 0 18 + 1) hS (by omega) hpw) (by omega)
      have e19 : Fm 14 0 19 = F 3 0 18 := hdd.1.symm
      rw [if_pos (show r32 1 by decide), if_neg (show ¬ (1 : Int) = 0 by decide), ho, e19]
      unfold fb_Parser_takeMusic
      have a14 : (advF (zup3 F 3 0 18 (F 3 0 18 + 1)) B) 3 0 14 = F 3 0 14 := by rw [advF_o (by decide)]; simp [zup3_v]
      have a15 : (advF (zup3 F 3 0 18 (F 3 0 18 + 1)) B) 3 0 15 = F 3 0 15 := by rw [advF_o (by decide)]; simp [zup3_v]
      have a18 : (advF (zup3 F 3 0 18 (F 3 0 18 + 1)) B) 3 0 18 = F 3 0 18 + 1 := by rw [advF_o (by decide)]; simp [zup3_v]
      have gF : fF F (advF (zup3 F 3 0 18 (F 3 0 18 + 1)) B) := fF_a (fF_u fF_r (by decide))
      have gG : fG Fm (zup3 (zup3 Fm 14 0 19 (F 3 0 18 + 1)) 14 0 16 (j + 1)) := fG_u (fG_u fG_r (by decide) (by decide)) (by decide) (by decide)
      have hLT1 := LT_k (k0 := 0) (x0 := 0) (lo := 0) (pl := 0) (fr := 0) (j := 0) hLT gF gG fK_r (by decide) (fJ_H fH_r (Int.le_refl _))
      refine zP_m (P_music (o := o') (lp := fun n F B => f_M_block_11 om Km n j F B) (c := 125) (fr := j) (hI d' rfl) hB (Or.inl rfl) jj.1 ?_ ?_ ?_ (q := 3001) (m := K.1) (m' := Km) (i := 0) (last := -1) (par := x) (j := j + 1) (x0 := x) (k0 := 4) (by omega) (by omega) (by omega) (by omega) (by omega) (by omega) (Or.inl ⟨rfl, rfl, rfl⟩) x0 (by omega) (by omega) (by omega) hE hS1 (by omega) (by omega) hLT1 hcell) (fun r F' B' r' Fm' Bm' hh => ?_)
      · intro n F B
        rfl
      · intro F B
        rfl
      · intro F B hX
        show (if r32 1 then (if (1 : Int) = 0 then _ else zbind (f_Parser_takeClosing K 0 125 F B) _) else none) = _
        rw [if_pos (by decide), if_neg (by decide), C_takeClosing hX (by decide)]
        by_cases w : sgn F 125 = 0
        · rw [if_pos w]; rfl
        · rw [if_neg w]; rfl
      · obtain ⟨g1, g2, g3, g4, g5⟩ := hh
        rw [a14, a15] at g3
        refine ⟨fF_t gF g1, fG_t gG g2, g3, fJ_fH g4 (by omega), ?_⟩
        rcases g5 with ⟨rfl, j', n, v1, v2, v3, v4, v5, v6, v7⟩ | er
        · rw [a14, a15] at v7
          exact Or.inl ⟨rfl, j', n, by omega, v2, v3, by omega, by omega, by omega, v7, by omega⟩
        · exact Or.inr er
theorem nm_of {K : zK} {Km : Nat} {N j : Int} {F : zF} {B : zB} {Fm : zF} {Bm : zB} (hE : EV K Km N B Bm) (hS : PS N j F B Fm Bm) (k : Bm 14 0 7 j = 3) : F 10 0 0 = 3 ∧ F 10 0 2 = Bm 14 0 9 j := by
  have tk := hE.1.2.2 j hS.2.1.1.1 hS.2.1.1.2
  exact ⟨hS.2.1.2.1.trans k, hS.2.1.2.2.2.1.trans (tk.2.2.2.2.2.1 k).1⟩
/-- a number is taken, or refused, alike -/
theorem P_num {K : zK} {Km : Nat} {N j lo hi : Int} {F : zF} {B : zB} {Fm : zF} {Bm : zB} (hE : EV K Km N B Bm) (hS : PS N j F B Fm Bm) (hl : r32 lo) (hh : r32 hi) : (Bm 14 0 7 j = 3 ∧ lo ≤ Bm 14 0 9 j ∧ Bm 14 0 9 j ≤ hi ∧ f_Parser_takeNumber K 0 lo hi 0 F B = some (1, advF (zup3 F 3 0 19 (Bm 14 0 9 j)) B, B) ∧ f_M_number Km lo hi 0 Fm Bm = some (Bm 14 0 9 j, zup3 Fm 14 0 16 (j + 1), Bm) ∧ PS N (j + 1) (advF (zup3 F 3 0 19 (Bm 14 0 9 j)) B) B (zup3 Fm 14 0 16 (j + 1)) Bm) ∨ (∃ s s' v, f_Parser_takeNumber K 0 lo hi 0 F B = some (0, refF F s, B) ∧ f_M_number Km lo hi 0 Fm Bm = some (v, errM Fm Bm s', Bm) ∧ ERR (refF F s) (errM Fm Bm s')) := by
  have hg := hS.2.2.2.1
  have cn := C_takeNumber (lo := lo) (hi := hi) (pw := 0) (PS_CX hE hS) hl hh (Or.inl rfl)
  have mn := L_number (K := Km) (lo := lo) (hi := hi) (pw := 0) hg (PS_MX hE hS) hl hh (Or.inl rfl)
  by_cases k : Bm 14 0 7 j = 3
  · obtain ⟨e0, e2⟩ := nm_of hE hS k
    by_cases n : nOK (Bm 14 0 9 j) lo hi 0
    · left
      have c := cn.1 e0 (by rw [e2]; exact n)
      rw [e2] at c
      exact ⟨k, n.1, n.2.1, c, mn.1 k n, PS_step hE (PS_u (k := 19) hS (by decide)) (by omega)⟩
    · right
      exact ⟨5, 5, _, cn.2.1 e0 (by rw [e2]; exact n), mn.2.1 k n, PS_err hE hS (by rw [if_neg (by omega)]) (by decide)⟩
  · right
    have e0 := hS.2.1.2.1
    exact ⟨2, wr Bm j, 0, cn.2.2 (by rw [e0]; exact k), mn.2.2 k, PS_err2 hE hS⟩
/-- a sign is taken, or refused, alike -/
theorem P_sig {K : zK} {Km : Nat} {N j c : Int} {F : zF} {B : zB} {Fm : zF} {Bm : zB} (hE : EV K Km N B Bm) (hS : PS N j F B Fm Bm) (hc : r32 c) : (sgAt Bm j c ∧ f_Parser_takeSign K 0 c F B = some (1, advF F B, B) ∧ f_M_need Km c Fm Bm = some (0, zup3 Fm 14 0 16 (j + 1), Bm) ∧ PS N (j + 1) (advF F B) B (zup3 Fm 14 0 16 (j + 1)) Bm) ∨ (f_Parser_takeSign K 0 c F B = some (0, refF F 2, B) ∧ f_M_need Km c Fm Bm = some (0, errM Fm Bm (wr Bm j), Bm) ∧ ERR (refF F 2) (errM Fm Bm (wr Bm j))) := by
  have hg := hS.2.2.2.1
  rw [C_takeSign (PS_CX hE hS) hc, L_need hg (PS_MX hE hS) hc, PS_sg hE hS]
  by_cases z : sgm Bm j c = 0
  · right
    rw [if_pos z, if_pos z]
    exact ⟨rfl, rfl, PS_err2 hE hS⟩
  · left
    have z' := Decidable.not_not.mp (mt sgm_0.mpr z)
    rw [if_neg z, if_neg z]
    exact ⟨z', rfl, rfl, PS_step hE hS (by omega)⟩
theorem P_frac {K : zK} {Km : Nat} {N j x lo hi : Int} {F : zF} {B : zB} {Fm : zF} {Bm : zB} {kC kM : Int → zF → zB → zO} {Q : Int → zF → zB → Int → zF → zB → Prop} (hx : 0 ≤ x ∧ x < 3000) (hE : EV K Km N B Bm) (hS : PS N j F B Fm Bm) (hl : r32 lo) (hh : r32 hi) (ok : ∀ F' B' Fm' r', fF F F' → fG Fm Fm' → fX [2, 3] x (F 3 0 15) B B' → PS N (j + 3) F' B' Fm' Bm → nmAt Bm j (B' 3 0 2 x) lo hi → nmAt Bm (j + 2) (B' 3 0 3 x) 1 hi → F' 3 0 14 = F 3 0 14 → F' 3 0 15 = F 3 0 15 → F' 3 0 18 = F 3 0 18 → zP (kC 1 F' B') (kM r' Fm' Bm) Q) (no : ∀ F' B' Fm' r', fF F F' → fG Fm Fm' → fX [2, 3] x (F 3 0 15) B B' → ERR F' Fm' → zP (kC 0 F' B') (kM r' Fm' Bm) Q) : zP (zbind (f_Parser_takeFraction K 0 x lo hi F B) kC) (zbind (f_M_number Km lo hi 0 Fm Bm) (fun _ F2 B2 => zbind (f_M_need Km 47 F2 B2) (fun _ F3 B3 => zbind (f_M_number Km 1 hi 0 F3 B3) kM))) Q := by
  have k3 := hE.2.2.2.1
  unfold f_Parser_takeFraction f_Parser_takeFraction_41
  rw [if_pos ⟨by omega, k3⟩]
  rcases P_num hE hS hl hh with ⟨n1, n2, n3, c1, m1, hS1⟩ | ⟨s, s', v, c1, m1, er⟩
  · rw [c1, m1]
    simp only [zb_s]
    rw [if_pos (show r32 1 by decide), if_neg (show ¬ (1 : Int) = 0 by decide), if_pos hx]
    have e19 : (advF (zup3 F 3 0 19 (Bm 14 0 9 j)) B) 3 0 19 = Bm 14 0 9 j := by rw [advF_o (by decide)]; simp [zup3_v]
    rw [e19]
    have hX1 : fX [2, 3] x (F 3 0 15) B (zup4 B 3 0 2 x (Bm 14 0 9 j)) := fX_u fX_r (Or.inl ⟨by decide, rfl⟩)
    have hB1 := fX_B (lo := x) hX1 (by decide) (Int.le_refl _)
    have hE1 := EV_f hE hB1 (fH_r (fr := 0))
    have hS1' := PS_f hS1 hB1 (fH_r (fr := 0))
    rcases P_sig hE1 hS1' (c := 47) (by decide) with ⟨_, c2, m2, hS2⟩ | ⟨c2, m2, er⟩
    · rw [c2, m2]
      simp only [zb_s]
      rw [if_pos (show r32 1 by decide), if_neg (show ¬ (1 : Int) = 0 by decide)]
      rcases P_num hE1 hS2 (lo := 1) (hi := hi) (by decide) hh with ⟨p1, p2, p3, c3, m3, hS3⟩ | ⟨s, s', v, c3, m3, er⟩
      · rw [c3, m3]
        simp only [zb_s]
        rw [if_pos (show r32 1 by decide), if_neg (show ¬ (1 : Int) = 0 by decide)]
        have e19' : (advF (zup3 (advF (advF (zup3 F 3 0 19 (Bm 14 0 9 j)) B) (zup4 B 3 0 2 x (Bm 14 0 9 j))) 3 0 19 (Bm 14 0 9 (j + 1 + 1))) (zup4 B 3 0 2 x (Bm 14 0 9 j))) 3 0 19 = Bm 14 0 9 (j + 1 + 1) := by rw [advF_o (by decide)]; simp [zup3_v]
        rw [e19']
        have hX2 : fX [2, 3] x (F 3 0 15) B (zup4 (zup4 B 3 0 2 x (Bm 14 0 9 j)) 3 0 3 x (Bm 14 0 9 (j + 1 + 1))) := fX_u hX1 (Or.inl ⟨by decide, rfl⟩)
        have hX3 : fX [2, 3] x (F 3 0 15) (zup4 B 3 0 2 x (Bm 14 0 9 j)) (zup4 (zup4 B 3 0 2 x (Bm 14 0 9 j)) 3 0 3 x (Bm 14 0 9 (j + 1 + 1))) := fX_u fX_r (Or.inl ⟨by decide, rfl⟩)
        refine ok _ _ _ _ (fF_a (fF_u (fF_a (fF_a (fF_u fF_r (by decide)))) (by decide))) (fG_u (fG_u (fG_u fG_r (by decide) (by decide)) (by decide) (by decide)) (by decide) (by decide)) hX2 ?_ ?_ ?_ ?_ ?_ ?_
        · have := PS_f hS3 (fX_B (lo := x) hX3 (by decide) (Int.le_refl _)) (fH_r (fr := 0))
          rw [show j + 3 = j + 1 + 1 + 1 by omega]; exact this
        · refine ⟨n1, ?_, ?_, ?_⟩ <;> simp [zup4_v] <;> assumption
        · rw [show j + 2 = j + 1 + 1 by omega]
          refine ⟨p1, ?_, ?_, ?_⟩ <;> simp [zup4_v] <;> assumption
        · simp [advF_o, zup3_v]
        · simp [advF_o, zup3_v]
        · simp [advF_o, zup3_v]
      · rw [c3, m3]
        simp only [zb_s]
        rw [if_pos (show r32 0 by decide), if_pos trivial]
        exact no _ _ _ _ (fF_e (fF_a (fF_a (fF_u fF_r (by decide))))) (fG_e (fG_u (fG_u fG_r (by decide) (by decide)) (by decide) (by decide))) hX1 er
    · rw [c2, m2]
      simp only [zb_s]
      rw [if_pos (show r32 0 by decide), if_pos trivial, L_numberB er.2]
      simp only [zb_s]
      exact no _ _ _ _ (fF_e (fF_a (fF_u fF_r (by decide)))) (fG_e (fG_u fG_r (by decide) (by decide))) hX1 er
  · rw [c1, m1]
    simp only [zb_s]
    rw [if_pos (show r32 0 by decide), if_pos trivial, L_needB er.2]
    simp only [zb_s]
    rw [L_numberB er.2]
    simp only [zb_s]
    exact no _ _ _ _ (fF_e fF_r) (fG_e fG_r) fX_r er
end
end
section
section
/-! ===== items with blocks: what both sides do, word by word ===== -/
theorem ir0 {a b : zO} : (if r32 0 then a else b) = a := if_pos (by decide)
theorem ir1 {a b : zO} : (if r32 1 then a else b) = a := if_pos (by decide)
theorem i00 {a b : zO} : (if (0 : Int) = 0 then a else b) = a := if_pos rfl
theorem i10 {a b : zO} : (if (1 : Int) = 0 then a else b) = b := if_neg (by decide)
theorem zor01 {r : Int} {a b : zO} (h : r = 0 ∨ r = 1) : (if r = 0 ∨ r = 1 then a else b) = a := if_pos h
/-- the reference at a word: its row of tests -/
theorem L_wd {Km : Nat} {Fm : zF} {Bm : zB} {j w c : Int} (hM : MX Fm Bm j) (h : wdAt Bm j w) (hc : r64 c) : f_M_isWord Km c Fm Bm = some (if w = c then 1 else 0, Fm, Bm) := by
  rw [L_isWord hM hc]
  unfold wdm
  rw [h.1, h.2]
  by_cases e : w = c
  · rw [if_pos ⟨rfl, e⟩, if_pos e]
  · rw [if_neg (fun z => e z.2), if_neg e]
theorem L_itemW {om om' : oT_P} {Km : Nat} {Fm : zF} {Bm : zB} {j w : Int} (hM : MX Fm Bm j) (h : wdAt Bm j w) (ho : ∀ F B, om.2.2.2 F B = fb_M_itemOfWord om' Km F B) : fb_M_item om Km Fm Bm = zbind (fb_M_itemOfWord om' Km Fm Bm) (fun _ F20 B20 => f_M_item_202 om Km j F20 B20) := by
  have s : ∀ c, r32 c → f_M_isSign Km c Fm Bm = some (0, Fm, Bm) := by
    intro c hc
    rw [L_isSign hM hc]
    rw [show sgm Bm j c = 0 from sgm_0.mpr (fun z => by have := z.1; have := h.1; omega)]
  have h4 := h.1
  have h16 := hM.1
  have h0 := hM.2.1
  unfold fb_M_item
  rw [h16, if_pos (by omega), if_pos (by omega), if_neg (by omega)]
  simp only [s 60 (by decide), s 124 (by decide), s 33 (by decide), s 91 (by decide), zb_s, ir0, if_true, if_false]
  rw [h16, if_pos (by omega), if_pos (by omega), if_pos h4, ho]
theorem C_itemB {o : oT_CP} {K : zK} {F : zF} {B : zB} {x : Int} (hX : CX K F B) (hx : 0 ≤ x ∧ x < 3000) (hk : B 3 0 0 x = 8) : fb_Parser_takeItem o K 0 x F B = zbind (o.1 0 x (advF F B) B) (fun r F B => if (r = 0 ∨ r = 1) then some (r, F, B) else none) := by
  unfold fb_Parser_takeItem
  rw [if_pos ⟨by omega, hX.1⟩, if_pos hx, hk, hX.2.2.1, if_pos (by decide), if_neg (by decide), if_neg (by decide), if_pos ⟨by omega, hX.2.1⟩, C_adv hX]
  simp only [zb_s, hk]
  rfl
theorem C_itemM {o : oT_CP} {K : zK} {F : zF} {B : zB} {x : Int} (hX : CX K F B) (hx : 0 ≤ x ∧ x < 3000) (hk : B 3 0 0 x = 6) : fb_Parser_takeItem o K 0 x F B = zbind (o.2.2.2.2.2.2.1 0 x (advF F B) B) (fun r F B => if (r = 0 ∨ r = 1) then some (r, F, B) else none) := by
  unfold fb_Parser_takeItem
  rw [if_pos ⟨by omega, hX.1⟩, if_pos hx, hk, hX.2.2.1, if_pos (by decide), if_neg (by decide), if_neg (by decide), if_pos ⟨by omega, hX.2.1⟩, C_adv hX]
  simp only [zb_s, hk]
  rfl
theorem C_itemI {o : oT_CP} {K : zK} {F : zF} {B : zB} {x : Int} (hX : CX K F B) (hx : 0 ≤ x ∧ x < 3000) (hk : B 3 0 0 x = 7) : fb_Parser_takeItem o K 0 x F B = zbind (o.2.2.2.2.2.2.2 0 x (advF F B) B) (fun r F B => if (r = 0 ∨ r = 1) then some (r, F, B) else none) := by
  unfold fb_Parser_takeItem
  rw [if_pos ⟨by omega, hX.1⟩, if_pos hx, hk, hX.2.2.1, if_pos (by decide), if_neg (by decide), if_neg (by decide), if_pos ⟨by omega, hX.2.1⟩, C_adv hX]
  simp only [zb_s, hk]
  rfl
theorem C_itemR {o : oT_CP} {K : zK} {F : zF} {B : zB} {x : Int} (hX : CX K F B) (hx : 0 ≤ x ∧ x < 3000) (hk : B 3 0 0 x = 4) : fb_Parser_takeItem o K 0 x F B = zbind (o.2.2.2.2.1 0 x (advF F B) B) (fun r F B => if (r = 0 ∨ r = 1) then some (r, F, B) else none) := by
  unfold fb_Parser_takeItem
  rw [if_pos ⟨by omega, hX.1⟩, if_pos hx, hk, hX.2.2.1, if_pos (by decide), if_neg (by decide), if_neg (by decide), if_pos ⟨by omega, hX.2.1⟩, C_adv hX]
  simp only [zb_s, hk]
  rfl
theorem C_itemU {o : oT_CP} {K : zK} {F : zF} {B : zB} {x : Int} (hX : CX K F B) (hx : 0 ≤ x ∧ x < 3000) (hk : B 3 0 0 x = 5) : fb_Parser_takeItem o K 0 x F B = zbind (f_Parser_takeUse K 0 x (advF F B) B) (fun r F B => if (r = 0 ∨ r = 1) then some (r, F, B) else none) := by
  unfold fb_Parser_takeItem
  rw [if_pos ⟨by omega, hX.1⟩, if_pos hx, hk, hX.2.2.1, if_pos (by decide), if_neg (by decide), if_neg (by decide), if_pos ⟨by omega, hX.2.1⟩, C_adv hX]
  simp only [zb_s, hk]
  rfl
theorem C_itemL {o : oT_CP} {K : zK} {F : zF} {B : zB} {x : Int} (hX : CX K F B) (hx : 0 ≤ x ∧ x < 3000) (hk : B 3 0 0 x = 2) : fb_Parser_takeItem o K 0 x F B = zbind (f_Parser_takeLoud K 0 x (advF F B) B) (fun r F B => if (r = 0 ∨ r = 1) then some (r, F, B) else none) := by
  unfold fb_Parser_takeItem
  rw [if_pos ⟨by omega, hX.1⟩, if_pos hx, hk, hX.2.2.1, if_pos (by decide), if_neg (by decide), if_neg (by decide), if_pos ⟨by omega, hX.2.1⟩, C_adv hX]
  simp only [zb_s, hk]
  rfl
theorem C_item1 {o : oT_CP} {K : zK} {F : zF} {B : zB} {x : Int} (hX : CX K F B) (hx : 0 ≤ x ∧ x < 3000) (hk : B 3 0 0 x = 1) : fb_Parser_takeItem o K 0 x F B = some (1, advF F B, B) := by
  unfold fb_Parser_takeItem
  rw [if_pos ⟨by omega, hX.1⟩, if_pos hx, hk, hX.2.2.1, if_pos (by decide), if_neg (by decide), if_neg (by decide), if_pos ⟨by omega, hX.2.1⟩, C_adv hX]
  simp only [zb_s, hk]
  rfl
theorem C_itemS {o : oT_CP} {K : zK} {F : zF} {B : zB} {x : Int} (hX : CX K F B) (hx : 0 ≤ x ∧ x < 3000) (hk : B 3 0 0 x = 9) : fb_Parser_takeItem o K 0 x F B = zbind (f_Parser_takeFraction K 0 x 1 8 (advF F B) B) (fun r29 F29 B29 => if r32 r29 then (if r29 = 0 then some (0, F29, B29) else zbind (o.1 0 x F29 B29) (fun r33 F33 B33 => if r32 r33 then (if r33 = 0 then some (0, F33, B33) else some (1, F33, B33)) else none)) else none) := by
  unfold fb_Parser_takeItem
  rw [if_pos ⟨by omega, hX.1⟩, if_pos hx, hk, hX.2.2.1, if_pos (by decide), if_neg (by decide), if_neg (by decide), if_pos ⟨by omega, hX.2.1⟩, C_adv hX]
  simp only [zb_s, hk]
  rfl
theorem C_itemE {o : oT_CP} {K : zK} {F : zF} {B : zB} {x : Int} (hX : CX K F B) (hx : 0 ≤ x ∧ x < 3000) (hk : B 3 0 0 x = 0) : fb_Parser_takeItem o K 0 x F B = zbind (f_Parser_takeEvent K 0 x F B) (fun r F B => if (r = 0 ∨ r = 1) then some (r, F, B) else none) := by
  unfold fb_Parser_takeItem
  rw [if_pos ⟨by omega, hX.1⟩, if_pos hx, hk, if_pos (by decide), if_pos rfl]
theorem C_itemT {o : oT_CP} {K : zK} {F : zF} {B : zB} {x : Int} (hX : CX K F B) (hx : 0 ≤ x ∧ x < 3000) (hk : B 3 0 0 x = 3) : fb_Parser_takeItem o K 0 x F B = zbind (o.2.2.2.1 0 x F B) (fun r F B => if (r = 0 ∨ r = 1) then some (r, F, B) else none) := by
  unfold fb_Parser_takeItem
  rw [if_pos ⟨by omega, hX.1⟩, if_pos hx, hk, if_pos (by decide), if_neg (by decide), if_pos rfl]
/-- a block of the item x, as later worlds see it -/
theorem BK_of {L : Int} {d' n : Nat} {x a j' lo hi pl ph hi' pl' ph' i e' : Int} {B' Bm' Bx By : zB} (ab : agB L x hi' pl' ph' x B' Bx) (am : agM L i e' Bm' By) (hs : SLR L d' n (B' 3 0 4 x) (a + 1) (j' - 1) lo hi pl ph B' Bm') (h30 : Bm' 14 0 30 a = j' - 1) (h1 : x < lo) (h2 : hi ≤ hi') (h3 : pl' ≤ pl) (h4 : ph ≤ ph') (h5 : i ≤ a) (h6 : j' ≤ e') (h7 : a + 2 ≤ j') (h8 : lo ≤ hi) (h9 : j' ≤ 3001) : BKf (IRd L d') Bx By x a := by
  have e30 : By 14 0 30 a = j' - 1 := by rw [am.1 30 a (by decide) (by decide) h5 (by omega)]; exact h30
  have e4 : Bx 3 0 4 x = B' 3 0 4 x := ab.1 4 x (by decide) (Int.le_refl _) (by omega) (fun z => absurd z.1 (by decide))
  refine ⟨by omega, by omega, n, ?_⟩
  rw [e30, e4]
  exact hs Bx By (agB_m ab (by omega) h2 h3 h4 (Or.inr (Or.inl (by omega)))) (agM_m am (by omega) (by omega))
/-- behind a block the item ends: its outcome, from the block's -/
theorem IPO_B {L : Int} {d : Nat} {N j x jb r : Int} {F F0 : zF} {B B0 : zB} {Fm Fm0 : zF} {Bm : zB} {F' : zF} {B' : zB} {Fm' : zF} {Bm' : zB} (h : BPO L d N jb x F0 B0 Fm0 Bm r F' B' Fm' Bm') (hN : N ≤ 3000) (hj : j < jb) (hx : x + 1 = F 3 0 14) (gF : fF F F0) (gG : fG Fm Fm0) (gB : fB x (F 3 0 15) B B0) (e14 : F0 3 0 14 = F 3 0 14) (e15 : F0 3 0 15 = F 3 0 15) (e18 : F0 3 0 18 = F 3 0 18) (h5 : B0 3 0 5 x = -1) (hI : ∀ j' n Bx By, jb + 2 ≤ j' → agB L x (F' 3 0 14) (F 3 0 15) (F' 3 0 15) x B' Bx → agM L j j' (zup4 Bm' 14 0 31 j j') By → BKf (IRd L (d - 1)) Bx By x jb → SLR L (d - 1) n (B' 3 0 4 x) (jb + 1) (j' - 1) (F 3 0 14) (F' 3 0 14) (F 3 0 15) (F' 3 0 15) B' Bm' → Bm' 14 0 30 jb = j' - 1 → By 14 0 31 j = j' → (∀ k, k ≤ 7 → k ≠ 5 → Bx 3 0 k x = B' 3 0 k x) → (∀ k, 7 ≤ k → k ≤ 11 → By 14 0 k = Bm 14 0 k) → (∀ k, k ≤ 7 → k ≠ 4 → B' 3 0 k x = B0 3 0 k x) → IRn (IRd L (d - 1)) Bx By x j) : r = 0 ∨ r = 1 → IPO L d N j x F B Fm Bm r F' B' Fm' (zup4 Bm' 14 0 31 j (Fm' 14 0 16)) := by
  intro hr
  obtain ⟨g1, g2, g3, g4, g5⟩ := h
  have hH : fH j Bm' (zup4 Bm' 14 0 31 j (Fm' 14 0 16)) := fH_u fH_r (by decide) (by decide) (Int.le_refl _)
  rw [e14, e15] at g3
  have gK : fB x (F 3 0 15) B B' := fun c i k y a b => by
    rw [g3 c i k y (fun z => a ⟨z.1, z.2.1, z.2.2.1, by have := z.2.2.2; omega⟩) b (fun z => a ⟨z.1, z.2.1, by have := z.2.2.1; omega, by have := z.2.2.2; omega⟩)]
    exact gB c i k y a b
  refine ⟨fF_t gF g1, fG_t gG g2, gK, fH_t (fH_m g4 (by omega)) hH, ?_⟩
  rcases g5 with ⟨rfl, j', n, v1, v2, v3, v4, v5, v6, v7, v8⟩ | er
  · left
    refine ⟨rfl, Or.inl ⟨j', by omega, PS_f (lo := 0) (pl := 0) v2 fB_r hH, ?_, by omega, by omega, by omega, ?_, ?_⟩⟩
    · simp [zup4_v]; exact v2.2.2.1
    · rw [g3 3 0 5 x (fun z => by have := z.2.2.2; omega) (fun z => absurd z.2.2.1 (by decide)) (fun z => absurd z.2.2.1 (by decide))]; exact h5
    · intro Bx By ab am
      rw [v2.2.2.1] at am
      rw [e14, e15] at v7
      have w30 : (zup4 Bm' 14 0 31 j j') 14 0 30 jb = j' - 1 := by simp [zup4_v]; exact v3
      have hs : SLR L (d - 1) n (B' 3 0 4 x) (jb + 1) (j' - 1) (F 3 0 14) (F' 3 0 14) (F 3 0 15) (F' 3 0 15) B' (zup4 Bm' 14 0 31 j j') := SLR_t v7 agB_r ⟨fun k y p q a b => by rw [zup4_v, if_neg (fun z => by have := z.2.2.2; omega)], fun k p q => by funext y; rw [zup4_v, if_neg (fun z => by have := z.2.2.1; omega)], fun q p a => by rw [zup4_v, if_neg (fun z => absurd z.2.2.1 (by decide))]⟩
      have bk := BK_of ab am hs w30 (by omega) (Int.le_refl _) (Int.le_refl _) (Int.le_refl _) (by omega) (Int.le_refl _) (by omega) (by omega) (by have := v2.2.1.1.2; omega)
      have e31 : By 14 0 31 j = j' := by rw [am.1 31 j (by decide) (by decide) (Int.le_refl _) (by omega)]; simp [zup4_v]
      have w : ∀ k, 7 ≤ k → k ≤ 11 → By 14 0 k = Bm 14 0 k := fun k p q => by
        rw [am.2.1 k p q]
        funext y
        rw [zup4_v, if_neg (fun z => by have := z.2.2.1; omega), fH_k g4 k (by omega)]
      have res := hI j' n Bx By v1 ab am bk v7 v3 e31 (fun k p q => ab.1 k x p (Int.le_refl _) (by omega) (fun z => q z.1)) w (fun k p q => g3 3 0 k x (fun z => by have := z.2.2.2; omega) (fun z => by have := z.2.2.1; omega) (fun z => q z.2.2.1))
      obtain ⟨d', rfl⟩ : ∃ y, d = y + 1 := ⟨d - 1, by omega⟩
      exact Or.inr res
  · exact Or.inr er
end
end
section
section
/-! ===== back, slow, mirror, move, on both sides ===== -/
theorem IRn_at {R : zB → zB → Int → Int → Prop} {B0 B' Bx Bm By : zB} {x j s : Int} (hF : fresh B0 Bm x j s) (gx : ∀ k, k ≤ 7 → k ≠ 5 → Bx 3 0 k x = B' 3 0 k x) (w : ∀ k, 7 ≤ k → k ≤ 11 → By 14 0 k = Bm 14 0 k) (g0 : ∀ k, k ≤ 1 → B' 3 0 k x = B0 3 0 k x) : Bx 3 0 1 x = By 14 0 8 j ∧ Bx 3 0 0 x = s := by
  rw [gx 1 (by decide) (by decide), gx 0 (by decide) (by decide), g0 1 (by decide), g0 0 (by decide), w 8 (by decide) (by decide)]
  exact ⟨hF.2.1, hF.1⟩
theorem wdAt_c {Bm By : zB} {j v : Int} (h : wdAt Bm j v) (w : ∀ k, 7 ≤ k → k ≤ 11 → By 14 0 k = Bm 14 0 k) : wdAt By j v := by
  unfold wdAt at *
  rw [w 7 (by decide) (by decide), w 11 (by decide) (by decide)]; exact h
theorem sgAt_c {Bm By : zB} {j v : Int} (h : sgAt Bm j v) (w : ∀ k, 7 ≤ k → k ≤ 11 → By 14 0 k = Bm 14 0 k) : sgAt By j v := by
  unfold sgAt at *
  rw [w 7 (by decide) (by decide), w 9 (by decide) (by decide)]; exact h
theorem nmAt_c {Bm By : zB} {j v lo hi : Int} (h : nmAt Bm j v lo hi) (w : ∀ k, 7 ≤ k → k ≤ 11 → By 14 0 k = Bm 14 0 k) : nmAt By j v lo hi := by
  unfold nmAt at *
  rw [w 7 (by decide) (by decide), w 9 (by decide) (by decide)]; exact h
theorem mvV_c {Bm By : zB} {j : Int} (w : ∀ k, 7 ≤ k → k ≤ 11 → By 14 0 k = Bm 14 0 k) : mvV By j = mvV Bm j := by
  unfold mvV
  rw [w 9 (by decide) (by decide), w 10 (by decide) (by decide)]
theorem BPO_r {L : Int} {d : Nat} {N j x r : Int} {F : zF} {B : zB} {Fm : zF} {Bm : zB} {F' : zF} {B' : zB} {Fm' : zF} {Bm' : zB} (h : BPO L d N j x F B Fm Bm r F' B' Fm' Bm') : r = 0 ∨ r = 1 := by
  rcases h.2.2.2.2 with z | z
  · exact Or.inr z.1
  · exact Or.inl z.1
theorem P_back {L : Int} {d : Nat} {K : zK} {Km : Nat} {N j x : Int} {o : oT_CP} {om om' : oT_P} {F : zF} {B : zB} {Fm : zF} {Bm : zB} (hx : 0 ≤ x ∧ x < 3000) (hxi : x + 1 = F 3 0 14) (hij : F 3 0 14 ≤ j + 1) (hE : EV K Km N B Bm) (hS : PS N j F B Fm Bm) (hd : F 3 0 18 + d = 8) (hdp : 1 ≤ F 3 0 18) (hLT : LT L F B Fm Bm) (hF : fresh B Bm x j 8) (wd : wdAt Bm j 1650549611) (ho : ∀ F B, om.2.2.2 F B = fb_M_itemOfWord om' Km F B) (hBk : BlkSim L K Km N d o.1 om'.1) : zP (fb_Parser_takeItem o K 0 x F B) (fb_M_item om Km Fm Bm) (fun r F' B' _ Fm' Bm' => IPO L d N j x F B Fm Bm r F' B' Fm' Bm') := by
  have hM := PS_MX hE hS
  have h4 := wd.1
  have jj := hS.2.1.1
  have nn := hE.1.2.1
  have t : ∀ c, r64 c → f_M_isWord Km c Fm Bm = some (if 1650549611 = c then 1 else 0, Fm, Bm) := fun c hc => L_wd hM wd hc
  have hS1 := PS_step hE hS (by omega)
  have a14 : (advF F B) 3 0 14 = F 3 0 14 := advF_o (by decide)
  have a15 : (advF F B) 3 0 15 = F 3 0 15 := advF_o (by decide)
  have a18 : (advF F B) 3 0 18 = F 3 0 18 := advF_o (by decide)
  have gF : fF F (advF F B) := fF_a fF_r
  have gG : fG Fm (zup3 Fm 14 0 16 (j + 1)) := fG_u fG_r (by decide) (by decide)
  have hLT1 := LT_k (k0 := 0) (x0 := 0) (lo := 0) (pl := 0) (fr := 0) (j := 0) hLT gF gG fK_r (by decide) (fJ_H fH_r (Int.le_refl _))
  rw [C_itemB (PS_CX hE hS) hx hF.1, L_itemW hM wd ho]
  unfold fb_M_itemOfWord f_M_itemOfWord_389
  simp only [t 114 (by decide), t 125780002955636 (by decide), t 7697253 (by decide), t 1836021349 (by decide), t 120299659095922 (by decide), t 1650549611 (by decide), zb_s, zb_a, ir0, ir1, if_true, if_false, Int.reduceEq, hM.1]
  refine zP_c (hBk (x := x) (j := j + 1) hx.1 (by omega) (by omega) hE hS1 (by omega) (PS_pw hS1 (by omega)) hLT1 hF.2.2.2.2.1) (fun r F' B' r' Fm' Bm' hh => ?_)
  have hr := BPO_r hh
  rw [L_202 (by omega), if_pos hr]
  refine zP_s (IPO_B hh hE.1.2.1 (by omega) hxi gF gG fB_r a14 a15 a18 hF.2.2.2.2.2.1 ?_ hr)
  intro j' n Bx By _ _ _ bk _ _ _ gx w g0
  obtain ⟨p1, p0⟩ := IRn_at hF gx w (fun k hk => g0 k (by omega) (by omega)) (R := IRd L (d - 1))
  exact ⟨p1, Or.inr (Or.inr (Or.inr (Or.inr (Or.inl ⟨p0, wdAt_c wd w, bk⟩))))⟩
theorem P_slow {L : Int} {d : Nat} {K : zK} {Km : Nat} {N j x : Int} {o : oT_CP} {om om' : oT_P} {F : zF} {B : zB} {Fm : zF} {Bm : zB} (hx : 0 ≤ x ∧ x < 3000) (hxi : x + 1 = F 3 0 14) (hij : F 3 0 14 ≤ j + 1) (hE : EV K Km N B Bm) (hS : PS N j F B Fm Bm) (hd : F 3 0 18 + d = 8) (hdp : 1 ≤ F 3 0 18) (hLT : LT L F B Fm Bm) (hF : fresh B Bm x j 9) (wd : wdAt Bm j 1936486263) (ho : ∀ F B, om.2.2.2 F B = fb_M_itemOfWord om' Km F B) (hBk : BlkSim L K Km N d o.1 om'.1) (hBd : BlkBad om'.1) : zP (fb_Parser_takeItem o K 0 x F B) (fb_M_item om Km Fm Bm) (fun r F' B' _ Fm' Bm' => IPO L d N j x F B Fm Bm r F' B' Fm' Bm') := by
  have hM := PS_MX hE hS
  have h4 := wd.1
  have jj := hS.2.1.1
  have nn := hE.1.2.1
  have t : ∀ c, r64 c → f_M_isWord Km c Fm Bm = some (if 1936486263 = c then 1 else 0, Fm, Bm) := fun c hc => L_wd hM wd hc
  have hS1 := PS_step hE hS (by omega)
  have a14 : (advF F B) 3 0 14 = F 3 0 14 := advF_o (by decide)
  have a15 : (advF F B) 3 0 15 = F 3 0 15 := advF_o (by decide)
  have a18 : (advF F B) 3 0 18 = F 3 0 18 := advF_o (by decide)
  have gF : fF F (advF F B) := fF_a fF_r
  have gG : fG Fm (zup3 Fm 14 0 16 (j + 1)) := fG_u fG_r (by decide) (by decide)
  rw [C_itemS (PS_CX hE hS) hx hF.1, L_itemW hM wd ho]
  unfold fb_M_itemOfWord f_M_itemOfWord_389
  simp only [t 114 (by decide), t 125780002955636 (by decide), t 7697253 (by decide), t 1836021349 (by decide), t 120299659095922 (by decide), t 1650549611 (by decide), t 1936486263 (by decide), zb_s, zb_a, ir0, ir1, if_true, if_false, Int.reduceEq, hM.1]
  refine P_frac hx hE hS1 (by decide) (by decide) ?_ ?_
  · intro F1 B1 Fm1 r1 q1 q2 q3 q4 q5 q6 q7 q8 q9
    rw [a14] at q7
    rw [a15] at q3 q8
    rw [a18] at q9
    simp only [ir1, i10]
    have hB1 := fX_B (lo := x) q3 (by decide) (Int.le_refl _)
    have gF1 := fF_t gF q1
    have gG1 := fG_t gG q2
    have hLT1 := LT_k (fr := 0) (j := 0) hLT gF1 gG1 (fB_K hB1) (by decide) (fJ_H fH_r (Int.le_refl _))
    refine zP_c (hBk (x := x) (j := j + 1 + 3) hx.1 (by omega) (by omega) (EV_f hE hB1 (fH_r (fr := 0))) q4 (by omega) (PS_pw q4 (by omega)) hLT1 (by rw [fX_3 q3 (by decide) (by decide)]; exact hF.2.2.2.2.1)) (fun r F' B' r' Fm' Bm' hh => ?_)
    have hr := BPO_r hh
    have fin := IPO_B (j := j) hh hE.1.2.1 (by omega) hxi gF1 gG1 hB1 q7 q8 q9 (by rw [fX_3 q3 (by decide) (by decide)]; exact hF.2.2.2.2.2.1) (by
      intro j' n Bx By _ _ _ bk _ _ _ gx w g0
      obtain ⟨p1, p0⟩ := IRn_at hF gx w (fun k hk => by rw [g0 k (by omega) (by omega), fX_3 q3 (by simp; omega) (by omega)]) (R := IRd L (d - 1))
      refine ⟨p1, Or.inr (Or.inr (Or.inr (Or.inr (Or.inr ⟨p0, wdAt_c wd w, ?_, ?_, ?_⟩))))⟩
      · rw [gx 2 (by decide) (by decide), g0 2 (by decide) (by decide)]; exact nmAt_c q5 w
      · rw [gx 3 (by decide) (by decide), g0 3 (by decide) (by decide)]
        rw [show j + 1 + 2 = j + 3 by omega] at q6
        exact nmAt_c q6 w
      · rw [show j + 4 = j + 1 + 3 by omega]; exact bk) hr
    rw [L_202 (by omega)]
    rcases hr with rfl | rfl
    · simp only [ir0, i00]; exact zP_s fin
    · simp only [ir1, i10]; exact zP_s fin
  · intro F1 B1 Fm1 r1 q1 q2 q3 er
    rw [a15] at q3
    simp only [ir0, i00]
    rw [hBd er.2]
    simp only [zb_s]
    rw [L_202 (by omega)]
    exact zP_s ⟨fF_t gF q1, fG_t gG q2, fX_B q3 (by decide) (Int.le_refl _), fH_u fH_r (by decide) (by decide) (Int.le_refl _), Or.inr ⟨rfl, er⟩⟩
end
end
section
section
/-! ===== mirror and move, on both sides ===== -/
theorem L_252e {o : oT_P} {Km n : Nat} {l : Int} {Fm : zF} {Bm : zB} (hl : r32 l) : f_M_itemOfWord_252 o Km (n + 1) l l Fm Bm = zbind (o.1 Fm Bm) (fun _ F B => some (0, F, B)) := by
  unfold f_M_itemOfWord_252 f_M_itemOfWord_300 f_M_itemOfWord_389
  rw [if_pos hl, if_pos hl, if_pos (Int.le_refl _)]
theorem L_252p {o : oT_P} {Km n : Nat} {l m j : Int} {Fm : zF} {Bm : zB} (hl : r32 l) (hm : r32 m) (h : l < m) (hg : Fm 14 0 17 = 0) (hM : MX Fm Bm j) (h2 : Bm 14 0 7 j = 2) : f_M_itemOfWord_252 o Km (n + 1) l m Fm Bm = f_M_itemOfWord_252 o Km n (l + 1) m (zup3 Fm 14 0 16 (j + 1)) Bm := by
  have h16 := hM.1
  have h0 := hM.2.1
  rw [f_M_itemOfWord_252]
  rw [if_pos hl, if_pos hm, if_neg (by omega), L_good hg]
  simp only [zb_s, ir1, if_false, Int.reduceEq]
  unfold f_M_itemOfWord_294
  rw [h16, if_pos (by omega), if_pos (by omega), if_pos h2]
theorem L_252w {o : oT_P} {Km n : Nat} {l m j : Int} {Fm : zF} {Bm : zB} (hl : r32 l) (hm : r32 m) (h : l < m) (hl2 : r32 (l + 1)) (hn : 0 < n) (hg : Fm 14 0 17 = 0) (hM : MX Fm Bm j) (h2 : ¬ Bm 14 0 7 j = 2) (hB : BlkBad o.1) : f_M_itemOfWord_252 o Km (n + 1) l m Fm Bm = some (0, errM Fm Bm (wr Bm j), Bm) := by
  have h16 := hM.1
  have h0 := hM.2.1
  have hk := hM.2.2.1
  obtain ⟨n, rfl⟩ : ∃ y, n = y + 1 := ⟨n - 1, by omega⟩
  have hb : bad (errM Fm Bm (wr Bm j)) := by
    unfold bad errM wr
    simp only [zup3_v]
    simp
    split <;> omega
  rw [f_M_itemOfWord_252]
  rw [if_pos hl, if_pos hm, if_neg (by omega), L_good hg]
  simp only [zb_s, ir1, if_false, Int.reduceEq]
  unfold f_M_itemOfWord_294
  rw [h16, if_pos (by omega), if_pos (by omega), if_neg h2, L_wrong hg hM]
  simp only [zb_s]
  rw [f_M_itemOfWord_252]
  unfold f_M_itemOfWord_300 f_M_itemOfWord_389
  rw [if_pos hl2, if_pos hm, hB hb, L_goodB hb]
  simp only [zb_s, ir0, if_true]
  split <;> first | rfl | (rw [hB hb]; rfl)
theorem P_mirror {L : Int} {d : Nat} {K : zK} {Km : Nat} {N j x : Int} {o o' : oT_CP} {om om' : oT_P} {F : zF} {B : zB} {Fm : zF} {Bm : zB} (hx : 0 ≤ x ∧ x < 3000) (hxi : x + 1 = F 3 0 14) (hij : F 3 0 14 ≤ j + 1) (hE : EV K Km N B Bm) (hS : PS N j F B Fm Bm) (hd : F 3 0 18 + d = 8) (hdp : 1 ≤ F 3 0 18) (hLT : LT L F B Fm Bm) (hF : fresh B Bm x j 7) (wd : wdAt Bm j 120299659095922) (ho : ∀ F B, om.2.2.2 F B = fb_M_itemOfWord om' Km F B) (hoc : ∀ l0 l1 F B, o.2.2.2.2.2.2.2 l0 l1 F B = fb_Parser_takeMirror o' K l0 l1 F B) (hBk : BlkSim L K Km N d o'.1 om'.1) (hBd : BlkBad om'.1) : zP (fb_Parser_takeItem o K 0 x F B) (fb_M_item om Km Fm Bm) (fun r F' B' _ Fm' Bm' => IPO L d N j x F B Fm Bm r F' B' Fm' Bm') := by
  have hM := PS_MX hE hS
  have h4 := wd.1
  have jj := hS.2.1.1
  have nn := hE.1.2.1
  have km := hE.2.2.2.2.2.2
  have k3 := hE.2.2.2.1
  have k10 := hE.2.2.2.2.1
  have t : ∀ c, r64 c → f_M_isWord Km c Fm Bm = some (if 120299659095922 = c then 1 else 0, Fm, Bm) := fun c hc => L_wd hM wd hc
  have hS1 := PS_step hE hS (by omega)
  have hX1 := PS_CX hE hS1
  have hM1 := PS_MX hE hS1
  have hg1 := hS1.2.2.2.1
  have e11 := hS1.1
  have a14 : (advF F B) 3 0 14 = F 3 0 14 := advF_o (by decide)
  have a15 : (advF F B) 3 0 15 = F 3 0 15 := advF_o (by decide)
  have a18 : (advF F B) 3 0 18 = F 3 0 18 := advF_o (by decide)
  have gF : fF F (advF F B) := fF_a fF_r
  have gG : fG Fm (zup3 Fm 14 0 16 (j + 1)) := fG_u fG_r (by decide) (by decide)
  obtain ⟨kk, rfl⟩ : ∃ y, Km = y + 1 + 1 := ⟨Km - 2, by omega⟩
  rw [C_itemI (PS_CX hE hS) hx hF.1, L_itemW hM wd ho]
  unfold fb_M_itemOfWord f_M_itemOfWord_224 f_M_itemOfWord_239
  simp only [t 114 (by decide), t 125780002955636 (by decide), t 7697253 (by decide), t 1836021349 (by decide), t 120299659095922 (by decide), zb_s, ir0, ir1, if_true, if_false, Int.reduceEq, hM.1]
  rw [hoc]
  unfold fb_Parser_takeMirror
  rw [if_pos ⟨by omega, k3⟩, e11, if_pos ⟨by omega, k10⟩, if_pos (by have := hX1.2.2.2.1; omega), hS1.2.1.2.1]
  by_cases k2 : Bm 14 0 7 (j + 1) = 2
  · obtain ⟨s3, s4⟩ := hS1.2.1.2.2.2.2.1 k2
    have tk := hE.1.2.2 (j + 1) hS1.2.1.1.1 hS1.2.1.1.2
    obtain ⟨_, v1, v2, v3, v4⟩ := tk.2.2.2.2.1 k2
    have hXA : fX [2, 3] x (F 3 0 15) B (zup4 B 3 0 2 x (2 * Bm 14 0 9 (j + 1))) := fX_u fX_r (Or.inl ⟨by decide, rfl⟩)
    have hXB : fX [2, 3] x (F 3 0 15) B (zup4 (zup4 B 3 0 2 x (2 * Bm 14 0 9 (j + 1))) 3 0 3 x (2 * (tnv (Bm 14 0 9 (j + 1)) + Bm 14 0 10 (j + 1)))) := fX_u hXA (Or.inl ⟨by decide, rfl⟩)
    have hB2 := fX_B (lo := x) hXB (by decide) (Int.le_refl _)
    have hE2 := EV_f hE hB2 (fH_r (fr := 0))
    have hS2 := PS_f hS1 hB2 (fH_r (fr := 0))
    have hS3 := PS_step hE2 hS2 (by omega)
    rw [if_pos k2, if_pos hx, s3, C_nat v1 v2, L_252p (by decide) (by decide) (by omega) hg1 hM1 k2, show (0 : Int) + 1 = 1 from rfl, L_252e (by decide)]
    simp only [zb_s]
    rw [e11, if_pos ⟨by omega, k10⟩, s4, C_adv (CX_b (CX_b hX1))]
    simp only [zb_s, zb_a]
    have gF1 : fF F (advF (advF F B) (zup4 (zup4 B 3 0 2 x (2 * Bm 14 0 9 (j + 1))) 3 0 3 x (2 * (tnv (Bm 14 0 9 (j + 1)) + Bm 14 0 10 (j + 1))))) := fF_a gF
    have gG1 : fG Fm (zup3 (zup3 Fm 14 0 16 (j + 1)) 14 0 16 (j + 1 + 1)) := fG_u gG (by decide) (by decide)
    have hLT1 := LT_k (fr := 0) (j := 0) hLT gF1 gG1 (fB_K hB2) (by decide) (fJ_H fH_r (Int.le_refl _))
    refine zP_c (hBk (x := x) (j := j + 1 + 1) hx.1 (by rw [advF_o (by decide)]; omega) (by rw [advF_o (by decide)]; omega) hE2 hS3 (by rw [advF_o (by decide)]; omega) (PS_pw hS3 (by rw [advF_o (by decide)]; omega)) hLT1 (by rw [fX_3 hXB (by decide) (by decide)]; exact hF.2.2.2.2.1)) (fun r F' B' r' Fm' Bm' hh => ?_)
    have hr := BPO_r hh
    rw [if_pos hr]
    simp only [zb_s]
    rw [if_pos hr, L_202 (by omega)]
    refine zP_s (IPO_B (j := j) hh hE.1.2.1 (by omega) hxi gF1 gG1 hB2 (by rw [advF_o (by decide)]; exact a14) (by rw [advF_o (by decide)]; exact a15) (by rw [advF_o (by decide)]; exact a18) (by rw [fX_3 hXB (by decide) (by decide)]; exact hF.2.2.2.2.2.1) ?_ hr)
    intro j' n Bx By _ _ _ bk _ _ _ gx w g0
    obtain ⟨p1, p0⟩ := IRn_at hF gx w (fun k hk => by rw [g0 k (by omega) (by omega), fX_3 hXB (by simp; omega) (by omega)]) (R := IRd L (d - 1))
    refine ⟨p1, Or.inr (Or.inr (Or.inr (Or.inl ⟨p0, wdAt_c wd w, ?_, ?_, ?_, ?_⟩)))⟩
    · rw [w 7 (by decide) (by decide)]; exact k2
    · rw [gx 2 (by decide) (by decide), g0 2 (by decide) (by decide), w 9 (by decide) (by decide)]; simp [zup4_v]
    · rw [gx 3 (by decide) (by decide), g0 3 (by decide) (by decide), mvV_c w]; simp [zup4_v, mvV]
    · rw [show j + 2 = j + 1 + 1 by omega]; exact bk
  · have er := PS_err2 hE hS1
    rw [if_neg k2, C_refuse hX1, L_252w (by decide) (by decide) (by omega) (by decide) (by omega) hg1 hM1 k2 hBd]
    simp only [zb_s]
    rw [if_pos (by decide)]
    simp only [zb_s]
    rw [if_pos (by decide), L_202 (by omega)]
    exact zP_s ⟨fF_e gF, fG_e gG, fB_r, fH_u fH_r (by decide) (by decide) (Int.le_refl _), Or.inr ⟨rfl, er⟩⟩
theorem P_move {L : Int} {d : Nat} {K : zK} {Km : Nat} {N j x : Int} {o o' : oT_CP} {om om' : oT_P} {F : zF} {B : zB} {Fm : zF} {Bm : zB} (hx : 0 ≤ x ∧ x < 3000) (hxi : x + 1 = F 3 0 14) (hij : F 3 0 14 ≤ j + 1) (hE : EV K Km N B Bm) (hS : PS N j F B Fm Bm) (hd : F 3 0 18 + d = 8) (hdp : 1 ≤ F 3 0 18) (hLT : LT L F B Fm Bm) (hF : fresh B Bm x j 6) (wd : wdAt Bm j 1836021349) (ho : ∀ F B, om.2.2.2 F B = fb_M_itemOfWord om' Km F B) (hoc : ∀ l0 l1 F B, o.2.2.2.2.2.2.1 l0 l1 F B = fb_Parser_takeMove o' K l0 l1 F B) (hBk : BlkSim L K Km N d o'.1 om'.1) (hBd : BlkBad om'.1) : zP (fb_Parser_takeItem o K 0 x F B) (fb_M_item om Km Fm Bm) (fun r F' B' _ Fm' Bm' => IPO L d N j x F B Fm Bm r F' B' Fm' Bm') := by
  have hM := PS_MX hE hS
  have h4 := wd.1
  have jj := hS.2.1.1
  have nn := hE.1.2.1
  have km := hE.2.2.2.2.2.2
  have k3 := hE.2.2.2.1
  have k10 := hE.2.2.2.2.1
  have t : ∀ c, r64 c → f_M_isWord Km c Fm Bm = some (if 1836021349 = c then 1 else 0, Fm, Bm) := fun c hc => L_wd hM wd hc
  have hS1 := PS_step hE hS (by omega)
  have hX1 := PS_CX hE hS1
  have hM1 := PS_MX hE hS1
  have hg1 := hS1.2.2.2.1
  have e11 := hS1.1
  have a14 : (advF F B) 3 0 14 = F 3 0 14 := advF_o (by decide)
  have a15 : (advF F B) 3 0 15 = F 3 0 15 := advF_o (by decide)
  have a18 : (advF F B) 3 0 18 = F 3 0 18 := advF_o (by decide)
  have gF : fF F (advF F B) := fF_a fF_r
  have gG : fG Fm (zup3 Fm 14 0 16 (j + 1)) := fG_u fG_r (by decide) (by decide)
  obtain ⟨kk, rfl⟩ : ∃ y, Km = y + 1 + 1 + 1 := ⟨Km - 3, by omega⟩
  rw [C_itemM (PS_CX hE hS) hx hF.1, L_itemW hM wd ho]
  unfold fb_M_itemOfWord f_M_itemOfWord_224 f_M_itemOfWord_239
  simp only [t 114 (by decide), t 125780002955636 (by decide), t 7697253 (by decide), t 1836021349 (by decide), zb_s, ir0, ir1, if_true, if_false, Int.reduceEq, hM.1]
  rw [hoc]
  unfold fb_Parser_takeMove
  rw [if_pos ⟨by omega, k3⟩, e11, if_pos ⟨by omega, k10⟩, if_pos (by have := hX1.2.2.2.1; omega), hS1.2.1.2.1]
  by_cases k2 : Bm 14 0 7 (j + 1) = 2
  · obtain ⟨s3, s4⟩ := hS1.2.1.2.2.2.2.1 k2
    have tk := hE.1.2.2 (j + 1) hS1.2.1.1.1 hS1.2.1.1.2
    obtain ⟨_, v1, v2, v3, v4⟩ := tk.2.2.2.2.1 k2
    have hS2 := PS_step hE hS1 (by omega)
    have hX2 := PS_CX hE hS2
    have hM2 := PS_MX hE hS2
    have hg2 := hS2.2.2.2.1
    rw [if_pos k2, s3, C_nat v1 v2, L_252p (by decide) (by decide) (by omega) hg1 hM1 k2]
    simp only [zb_s]
    rw [e11, if_pos ⟨by omega, k10⟩, s4, C_adv hX1]
    simp only [zb_s]
    rw [hS2.1, if_pos ⟨by omega, k10⟩, if_pos (by have := hX2.2.2.2.1; omega), hS2.2.1.2.1]
    by_cases k4 : Bm 14 0 7 (j + 1 + 1) = 2
    · obtain ⟨s5, s6⟩ := hS2.2.1.2.2.2.2.1 k4
      have tk2 := hE.1.2.2 (j + 1 + 1) hS2.2.1.1.1 hS2.2.1.1.2
      obtain ⟨_, w1, w2, w3, w4⟩ := tk2.2.2.2.2.1 k4
      have hXA : fX [2, 3] x (F 3 0 15) B (zup4 B 3 0 2 x (Bm 14 0 9 (j + 1 + 1) - Bm 14 0 9 (j + 1))) := fX_u fX_r (Or.inl ⟨by decide, rfl⟩)
      have hXB : fX [2, 3] x (F 3 0 15) B (zup4 (zup4 B 3 0 2 x (Bm 14 0 9 (j + 1 + 1) - Bm 14 0 9 (j + 1))) 3 0 3 x ((tnv (Bm 14 0 9 (j + 1 + 1)) + Bm 14 0 10 (j + 1 + 1)) - (tnv (Bm 14 0 9 (j + 1)) + Bm 14 0 10 (j + 1)))) := fX_u hXA (Or.inl ⟨by decide, rfl⟩)
      have hB2 := fX_B (lo := x) hXB (by decide) (Int.le_refl _)
      have hE2 := EV_f hE hB2 (fH_r (fr := 0))
      have hS2' := PS_f hS2 hB2 (fH_r (fr := 0))
      have hS3 := PS_step hE2 hS2' (by omega)
      rw [if_pos k4, if_pos hx, s5, C_nat w1 w2, L_252p (by decide) (by decide) (by omega) hg2 hM2 k4, show (0 : Int) + 1 + 1 = 2 from rfl, L_252e (by decide)]
      simp only [zb_s]
      rw [hS2.1, if_pos ⟨by omega, k10⟩, s6, C_adv (CX_b (CX_b hX2))]
      simp only [zb_s, zb_a]
      have gF1 : fF F (advF (advF (advF F B) B) (zup4 (zup4 B 3 0 2 x (Bm 14 0 9 (j + 1 + 1) - Bm 14 0 9 (j + 1))) 3 0 3 x ((tnv (Bm 14 0 9 (j + 1 + 1)) + Bm 14 0 10 (j + 1 + 1)) - (tnv (Bm 14 0 9 (j + 1)) + Bm 14 0 10 (j + 1))))) := fF_a (fF_a gF)
      have gG1 : fG Fm (zup3 (zup3 (zup3 Fm 14 0 16 (j + 1)) 14 0 16 (j + 1 + 1)) 14 0 16 (j + 1 + 1 + 1)) := fG_u (fG_u gG (by decide) (by decide)) (by decide) (by decide)
      have hLT1 := LT_k (fr := 0) (j := 0) hLT gF1 gG1 (fB_K hB2) (by decide) (fJ_H fH_r (Int.le_refl _))
      have b14 : (advF (advF (advF F B) B) (zup4 (zup4 B 3 0 2 x (Bm 14 0 9 (j + 1 + 1) - Bm 14 0 9 (j + 1))) 3 0 3 x ((tnv (Bm 14 0 9 (j + 1 + 1)) + Bm 14 0 10 (j + 1 + 1)) - (tnv (Bm 14 0 9 (j + 1)) + Bm 14 0 10 (j + 1))))) 3 0 14 = F 3 0 14 := by rw [advF_o (by decide), advF_o (by decide)]; exact a14
      have b15 : (advF (advF (advF F B) B) (zup4 (zup4 B 3 0 2 x (Bm 14 0 9 (j + 1 + 1) - Bm 14 0 9 (j + 1))) 3 0 3 x ((tnv (Bm 14 0 9 (j + 1 + 1)) + Bm 14 0 10 (j + 1 + 1)) - (tnv (Bm 14 0 9 (j + 1)) + Bm 14 0 10 (j + 1))))) 3 0 15 = F 3 0 15 := by rw [advF_o (by decide), advF_o (by decide)]; exact a15
      have b18 : (advF (advF (advF F B) B) (zup4 (zup4 B 3 0 2 x (Bm 14 0 9 (j + 1 + 1) - Bm 14 0 9 (j + 1))) 3 0 3 x ((tnv (Bm 14 0 9 (j + 1 + 1)) + Bm 14 0 10 (j + 1 + 1)) - (tnv (Bm 14 0 9 (j + 1)) + Bm 14 0 10 (j + 1))))) 3 0 18 = F 3 0 18 := by rw [advF_o (by decide), advF_o (by decide)]; exact a18
      refine zP_c (hBk (x := x) (j := j + 1 + 1 + 1) hx.1 (by omega) (by omega) hE2 hS3 (by omega) (PS_pw hS3 (by omega)) hLT1 (by rw [fX_3 hXB (by decide) (by decide)]; exact hF.2.2.2.2.1)) (fun r F' B' r' Fm' Bm' hh => ?_)
      have hr := BPO_r hh
      rw [if_pos hr]
      simp only [zb_s]
      rw [if_pos hr, L_202 (by omega)]
      refine zP_s (IPO_B (j := j) hh hE.1.2.1 (by omega) hxi gF1 gG1 hB2 b14 b15 b18 (by rw [fX_3 hXB (by decide) (by decide)]; exact hF.2.2.2.2.2.1) ?_ hr)
      intro j' n Bx By _ _ _ bk _ _ _ gx w g0
      obtain ⟨p1, p0⟩ := IRn_at hF gx w (fun k hk => by rw [g0 k (by omega) (by omega), fX_3 hXB (by simp; omega) (by omega)]) (R := IRd L (d - 1))
      refine ⟨p1, Or.inr (Or.inr (Or.inl ⟨p0, wdAt_c wd w, ?_, ?_, ?_, ?_, ?_⟩))⟩
      · rw [w 7 (by decide) (by decide)]; exact k2
      · rw [w 7 (by decide) (by decide), show j + 2 = j + 1 + 1 by omega]; exact k4
      · rw [gx 2 (by decide) (by decide), g0 2 (by decide) (by decide), w 9 (by decide) (by decide), show j + 2 = j + 1 + 1 by omega]; simp [zup4_v]
      · rw [gx 3 (by decide) (by decide), g0 3 (by decide) (by decide), mvV_c w, mvV_c w, show j + 2 = j + 1 + 1 by omega]; simp [zup4_v, mvV]
      · rw [show j + 3 = j + 1 + 1 + 1 by omega]; exact bk
    · have er := PS_err2 hE hS2
      rw [if_neg k4, C_refuse hX2, L_252w (by decide) (by decide) (by omega) (by decide) (by omega) hg2 hM2 k4 hBd]
      simp only [zb_s]
      rw [if_pos (by decide)]
      simp only [zb_s]
      rw [if_pos (by decide), L_202 (by omega)]
      exact zP_s ⟨fF_e (fF_a gF), fG_e (fG_u gG (by decide) (by decide)), fB_r, fH_u fH_r (by decide) (by decide) (Int.le_refl _), Or.inr ⟨rfl, er⟩⟩
  · have er := PS_err2 hE hS1
    rw [if_neg k2, C_refuse hX1, L_252w (by decide) (by decide) (by omega) (by decide) (by omega) hg1 hM1 k2 hBd]
    simp only [zb_s]
    rw [if_pos (by decide)]
    simp only [zb_s]
    rw [if_pos (by decide), L_202 (by omega)]
    exact zP_s ⟨fF_e gF, fG_e gG, fB_r, fH_u fH_r (by decide) (by decide) (Int.le_refl _), Or.inr ⟨rfl, er⟩⟩
end
end
section
section
/-! ===== bar lines, loudness, uses, on both sides ===== -/
theorem L_sg {Km : Nat} {Fm : zF} {Bm : zB} {j w c : Int} (hM : MX Fm Bm j) (h : sgAt Bm j w) (hc : r32 c) : f_M_isSign Km c Fm Bm = some (if w = c then 1 else 0, Fm, Bm) := by
  rw [L_isSign hM hc]
  unfold sgm
  rw [h.1, h.2]
  by_cases e : w = c
  · rw [if_pos ⟨rfl, e⟩, if_pos e]
  · rw [if_neg (fun z => e z.2), if_neg e]
theorem fdR_n {row : Int → Int} {m w : Int} : ∀ {f : Nat} {k : Int}, 0 ≤ k → ∀ p, k ≤ p → p < fdR row m w f k → ¬ row p = w := by
  intro f
  induction f with
  | zero => intro k h0 p a b; unfold fdR at b; omega
  | succ f ih =>
    intro k h0 p a b
    unfold fdR at b
    by_cases h : m ≤ k
    · rw [if_pos h] at b; omega
    · rw [if_neg h] at b
      by_cases q : row k = w
      · rw [if_pos q] at b; omega
      · rw [if_neg q] at b
        by_cases e : p = k
        · rw [e]; exact q
        · exact ih (by omega) p (by omega) b
theorem IPO_l {L : Int} {d : Nat} {N j x j' : Int} {F : zF} {B : zB} {Fm : zF} {Bm : zB} {F' : zF} {B' : zB} {Fm' : zF} (hx : x < F 3 0 14) (hj : j < j') (gF : fF F F') (gG : fG Fm Fm') (gX : fX [2] x (F 3 0 15) B B') (hS : PS N j' F' B' Fm' Bm) (e14 : F' 3 0 14 = F 3 0 14) (e15 : F' 3 0 15 = F 3 0 15) (e18 : F' 3 0 18 = F 3 0 18) (h5 : B 3 0 5 x = -1) (hI : ∀ Bx By, (∀ k, k ≤ 7 → k ≠ 5 → Bx 3 0 k x = B' 3 0 k x) → (∀ k, 7 ≤ k → k ≤ 11 → By 14 0 k = Bm 14 0 k) → (∀ q, 0 ≤ q → q < L → Bx 3 0 13 q = B 3 0 13 q ∧ By 14 0 25 q = Bm 14 0 25 q) → IRl L Bx By x j) : IPO L d N j x F B Fm Bm 1 F' B' Fm' (zup4 Bm 14 0 31 j (Fm' 14 0 16)) := by
  have hH : fH j Bm (zup4 Bm 14 0 31 j (Fm' 14 0 16)) := fH_u fH_r (by decide) (by decide) (Int.le_refl _)
  refine ⟨gF, gG, fX_B gX (by decide) (Int.le_refl _), hH, Or.inl ⟨rfl, Or.inl ⟨j', hj, PS_f (lo := 0) (pl := 0) hS fB_r hH, ?_, e18, by omega, by omega, ?_, ?_⟩⟩⟩
  · simp [zup4_v]; exact hS.2.2.1
  · rw [fX_3 gX (by decide) (by decide)]; exact h5
  · intro Bx By a b
    refine IRd_l (hI Bx By (fun k p q => a.1 k x p (Int.le_refl _) (by omega) (fun z => q z.1)) (fun k p q => ?_) (fun q p r => ⟨?_, ?_⟩))
    · rw [b.2.1 k p q, fH_k hH k (by omega)]
    · rw [a.2.2 q p r]; exact gX 3 0 13 q (fun z => absurd z.2.2.1 (by decide)) (fun z => absurd z.2.2.2.1 (by decide))
    · rw [b.2.2 q p r, fH_k hH 25 (by decide)]
theorem P_bar {L : Int} {d : Nat} {K : zK} {Km : Nat} {N j x : Int} {o : oT_CP} {om : oT_P} {F : zF} {B : zB} {Fm : zF} {Bm : zB} (hx : 0 ≤ x ∧ x < 3000) (hxi : x + 1 = F 3 0 14) (hE : EV K Km N B Bm) (hS : PS N j F B Fm Bm) (hF : fresh B Bm x j 1) (sg : sgAt Bm j 124) : zP (fb_Parser_takeItem o K 0 x F B) (fb_M_item om Km Fm Bm) (fun r F' B' _ Fm' Bm' => IPO L d N j x F B Fm Bm r F' B' Fm' Bm') := by
  have hM := PS_MX hE hS
  have h5 := sg.1
  have jj := hS.2.1.1
  have nn := hE.1.2.1
  have t : ∀ c, r32 c → f_M_isSign Km c Fm Bm = some (if 124 = c then 1 else 0, Fm, Bm) := fun c hc => L_sg hM sg hc
  rw [C_item1 (PS_CX hE hS) hx hF.1]
  unfold fb_M_item
  rw [hM.1, if_pos (by omega), if_pos (by omega), if_neg (by omega)]
  simp only [t 60 (by decide), t 124 (by decide), zb_s, ir0, ir1, if_true, if_false, Int.reduceEq, hM.1]
  rw [L_202 (by omega)]
  refine zP_s (IPO_l (j' := j + 1) (by omega) (by omega) (fF_a fF_r) (fG_u fG_r (by decide) (by decide)) fX_r (PS_step hE hS (by omega)) (advF_o (by decide)) (advF_o (by decide)) (advF_o (by decide)) hF.2.2.2.2.2.1 ?_)
  intro Bx By gx w _
  obtain ⟨p1, p0⟩ := IRn_at (R := IRd L d) hF gx w (fun _ _ => rfl)
  exact ⟨p1, Or.inr (Or.inl ⟨p0, sgAt_c sg w⟩)⟩
theorem P_loud {L : Int} {d : Nat} {K : zK} {Km : Nat} {N j x : Int} {o : oT_CP} {om : oT_P} {F : zF} {B : zB} {Fm : zF} {Bm : zB} (hx : 0 ≤ x ∧ x < 3000) (hxi : x + 1 = F 3 0 14) (hE : EV K Km N B Bm) (hS : PS N j F B Fm Bm) (hF : fresh B Bm x j 2) (sg : sgAt Bm j 33) : zP (fb_Parser_takeItem o K 0 x F B) (fb_M_item om Km Fm Bm) (fun r F' B' _ Fm' Bm' => IPO L d N j x F B Fm Bm r F' B' Fm' Bm') := by
  have hM := PS_MX hE hS
  have h5 := sg.1
  have jj := hS.2.1.1
  have nn := hE.1.2.1
  have km := hE.2.2.2.2.2.2
  have t : ∀ c, r32 c → f_M_isSign Km c Fm Bm = some (if 33 = c then 1 else 0, Fm, Bm) := fun c hc => L_sg hM sg hc
  have hS1 := PS_step hE hS (by omega)
  have hX1 := PS_CX hE hS1
  have hM1 := PS_MX hE hS1
  have hg1 := hS1.2.2.2.1
  have jj1 := hS1.2.1.1
  have ek := hS1.2.1.2.1
  have ev := hS1.2.1.2.2.2.1
  have tk := hE.1.2.2 (j + 1) jj1.1 jj1.2
  have cl := C_takeLoud (x := x) hX1 hx
  have lb := fiL_b (w := Bm 14 0 11 (j + 1)) (L := wL)
  have ll : wL.length = 8 := rfl
  rw [C_itemL (PS_CX hE hS) hx hF.1]
  unfold fb_M_item f_M_item_142
  rw [hM.1, if_pos (by omega), if_pos (by omega), if_neg (by omega)]
  simp only [t 60 (by decide), t 124 (by decide), t 33 (by decide), zb_s, ir0, ir1, if_true, if_false, Int.reduceEq, hM.1]
  rw [if_pos (show 0 ≤ j + 1 ∧ j + 1 < 3001 by omega), if_pos (show r32 (Bm 14 0 7 (j + 1)) by have := hM1.2.2.1; omega)]
  have fail : ∀ {r : zO}, f_Parser_takeLoud K 0 x (advF F B) B = some (0, refF (advF F B) 2, B) → r = zbind (f_M_wrong Km (zup3 Fm 14 0 16 (j + 1)) Bm) (fun r40 F40 B40 => f_M_item_202 om Km j F40 B40) → zP (zbind (f_Parser_takeLoud K 0 x (advF F B) B) (fun r F B => if (r = 0 ∨ r = 1) then some (r, F, B) else none)) r (fun r F' B' _ Fm' Bm' => IPO L d N j x F B Fm Bm r F' B' Fm' Bm') := by
    intro r h1 h2
    have er := PS_err2 hE hS1
    rw [h1, h2, L_wrong hg1 hM1]
    simp only [zb_s]
    rw [if_pos (by decide), L_202 (by omega)]
    exact zP_s ⟨fF_e (fF_a fF_r), fG_e (fG_u fG_r (by decide) (by decide)), fB_r, fH_u fH_r (by decide) (by decide) (Int.le_refl _), Or.inr ⟨rfl, er⟩⟩
  by_cases k4 : Bm 14 0 7 (j + 1) = 4
  · have w4 := hM1.2.2.2.2 k4
    have e2 : (advF F B) 10 0 2 = Bm 14 0 11 (j + 1) := by rw [ev]; exact (tk.2.2.2.2.2.2.1 k4).1
    rw [if_pos k4, L_fL km hE.2.1 (by omega)]
    simp only [zb_s]
    rw [if_pos (show r32 (fiL wL (Bm 14 0 11 (j + 1)) 0) by omega)]
    by_cases m : Bm 14 0 11 (j + 1) ∈ wL
    · have f0 : ¬ fiL wL (Bm 14 0 11 (j + 1)) 0 = -1 := fun z => fiL_n.mp z m
      rw [if_pos (show 0 ≤ fiL wL (Bm 14 0 11 (j + 1)) 0 by omega), cl.1 (by rw [ek]; exact k4) (by rw [e2]; exact m), e2]
      simp only [zb_s]
      rw [if_pos (by decide), L_202 (by omega)]
      have hX2 : fX [2] x (F 3 0 15) B (zup4 B 3 0 2 x (fiL wL (Bm 14 0 11 (j + 1)) 0)) := fX_u fX_r (Or.inl ⟨by decide, rfl⟩)
      have hB2 := fX_B (lo := x) hX2 (by decide) (Int.le_refl _)
      have e16 : (zup3 Fm 14 0 16 (j + 1)) 14 0 16 + 1 = j + 1 + 1 := by simp [zup3_v]
      rw [e16]
      refine zP_s (IPO_l (j' := j + 1 + 1) (by omega) (by omega) (fF_a (fF_a fF_r)) (fG_u (fG_u fG_r (by decide) (by decide)) (by decide) (by decide)) hX2 (PS_f (PS_step hE hS1 (by omega)) hB2 (fH_r (fr := 0))) ?_ ?_ ?_ hF.2.2.2.2.2.1 ?_)
      · rw [advF_o (by decide), advF_o (by decide)]
      · rw [advF_o (by decide), advF_o (by decide)]
      · rw [advF_o (by decide), advF_o (by decide)]
      · intro Bx By gx w _
        obtain ⟨p1, p0⟩ := IRn_at (R := IRd L d) hF gx w (fun k hk => by rw [fX_3 hX2 (by simp; omega) (by omega)])
        refine ⟨p1, Or.inr (Or.inr (Or.inl ⟨p0, sgAt_c sg w, ?_, ?_⟩))⟩
        · rw [gx 2 (by decide) (by decide), w 11 (by decide) (by decide)]; simp [zup4_v]
        · rw [gx 2 (by decide) (by decide)]; simp [zup4_v]; omega
    · have f0 : fiL wL (Bm 14 0 11 (j + 1)) 0 = -1 := fiL_n.mpr m
      rw [if_neg (show ¬ 0 ≤ fiL wL (Bm 14 0 11 (j + 1)) 0 by omega)]
      exact fail (cl.2 (fun z => m (by rw [e2] at z; exact z.2))) rfl
  · rw [if_neg k4]
    exact fail (cl.2 (fun z => k4 (by rw [ek] at z; exact z.1))) rfl
end
end
section
section
/-! ===== uses and brackets, on both sides ===== -/
theorem nmF_r (k w : Int) : nmF k w = 0 ∨ nmF k w = 1 := by
  by_cases h : k = 4 ∧ nmC w
  · exact Or.inr (nmF_1 h)
  · exact Or.inl (nmF_0 h)
theorem PS_nm {K : zK} {Km : Nat} {N j : Int} {F : zF} {B : zB} {Fm : zF} {Bm : zB} (hE : EV K Km N B Bm) (h : PS N j F B Fm Bm) : nmF (F 10 0 0) (F 10 0 2) = nmF (Bm 14 0 7 j) (Bm 14 0 11 j) := by
  have tk := hE.1.2.2 j h.2.1.1.1 h.2.1.1.2
  have ek := h.2.1.2.1
  have ev := h.2.1.2.2.2.1
  by_cases a : Bm 14 0 7 j = 4
  · rw [ek, ev, (tk.2.2.2.2.2.2.1 a).1]
  · rw [nmF_0 (fun z => a (ek.symm.trans z.1)), nmF_0 (fun z => a z.1)]
theorem P_use {L : Int} {d : Nat} {K : zK} {Km : Nat} {N j x : Int} {o : oT_CP} {om om' : oT_P} {F : zF} {B : zB} {Fm : zF} {Bm : zB} (hx : 0 ≤ x ∧ x < 3000) (hxi : x + 1 = F 3 0 14) (hE : EV K Km N B Bm) (hS : PS N j F B Fm Bm) (hLT : LT L F B Fm Bm) (hF : fresh B Bm x j 5) (wd : wdAt Bm j 7697253) (ho : ∀ F B, om.2.2.2 F B = fb_M_itemOfWord om' Km F B) : zP (fb_Parser_takeItem o K 0 x F B) (fb_M_item om Km Fm Bm) (fun r F' B' _ Fm' Bm' => IPO L d N j x F B Fm Bm r F' B' Fm' Bm') := by
  have hM := PS_MX hE hS
  have h4 := wd.1
  have jj := hS.2.1.1
  have nn := hE.1.2.1
  have km := hE.2.2.2.2.2.2
  have k3 := hE.2.2.2.1
  have k10 := hE.2.2.2.2.1
  have t : ∀ c, r64 c → f_M_isWord Km c Fm Bm = some (if 7697253 = c then 1 else 0, Fm, Bm) := fun c hc => L_wd hM wd hc
  have hS1 := PS_step hE hS (by omega)
  have hX1 := PS_CX hE hS1
  have hM1 := PS_MX hE hS1
  have hg1 := hS1.2.2.2.1
  have jj1 := hS1.2.1.1
  have ek := hS1.2.1.2.1
  have ev := hS1.2.1.2.2.2.1
  have tk := hE.1.2.2 (j + 1) jj1.1 jj1.2
  have gF : fF F (advF F B) := fF_a fF_r
  have gG : fG Fm (zup3 Fm 14 0 16 (j + 1)) := fG_u fG_r (by decide) (by decide)
  have e11 := hS1.1
  obtain ⟨l1, l2, l3, l4⟩ := hLT
  have nr := nmF_r (Bm 14 0 7 (j + 1)) (Bm 14 0 11 (j + 1))
  have a16 : (advF F B) 3 0 16 = L := (advF_o (by decide)).trans l1
  have b27 : (zup3 Fm 14 0 16 (j + 1)) 14 0 27 = L := by simp [zup3_v]; exact l2
  rw [C_itemU (PS_CX hE hS) hx hF.1, L_itemW hM wd ho]
  unfold fb_M_itemOfWord f_M_itemOfWord_389 f_Parser_takeUse
  simp only [t 114 (by decide), t 125780002955636 (by decide), t 7697253 (by decide), zb_s, ir0, ir1, if_true, if_false, Int.reduceEq, hM.1, L_isName km hM1 hE.2.1, C_isName hX1, PS_nm hE hS1]
  rw [if_pos ⟨by omega, k3⟩, if_pos (show r32 (nmF (Bm 14 0 7 (j + 1)) (Bm 14 0 11 (j + 1))) by omega), if_pos (show r32 (nmF (Bm 14 0 7 (j + 1)) (Bm 14 0 11 (j + 1))) by omega)]
  by_cases z : nmF (Bm 14 0 7 (j + 1)) (Bm 14 0 11 (j + 1)) = 0
  · have er := PS_err2 hE hS1
    rw [if_pos z, if_pos z, C_refuse hX1, L_wrong hg1 hM1]
    simp only [zb_s]
    rw [if_pos (by decide)]
    simp only [zb_s]
    rw [if_pos (by decide), L_202 (by omega)]
    exact zP_s ⟨fF_e gF, fG_e gG, fB_r, fH_u fH_r (by decide) (by decide) (Int.le_refl _), Or.inr ⟨rfl, er⟩⟩
  · have k4 : Bm 14 0 7 (j + 1) = 4 := by
      by_cases q : Bm 14 0 7 (j + 1) = 4 ∧ nmC (Bm 14 0 11 (j + 1))
      · exact q.1
      · exact absurd (nmF_0 q) z
    have w4 := hM1.2.2.2.2 k4
    have e2 : (advF F B) 10 0 2 = Bm 14 0 11 (j + 1) := by rw [ev]; exact (tk.2.2.2.2.2.2.1 k4).1
    have ef : fdR (B 3 0 12) L (Bm 14 0 11 (j + 1)) 22 0 = fdR (Bm 14 0 25) L (Bm 14 0 11 (j + 1)) 22 0 := fdR_c (fun y p q => (l4 y p q).1)
    have ln := C_letNamed (w := Bm 14 0 11 (j + 1)) hX1 (by omega) (fun y p q => (l4 y p (by omega)).2.1) (by omega)
    rw [a16, ef] at ln
    have mn := L_find (K := Km) (c := 14) (i := 0) (k := 25) (m := L) (w := Bm 14 0 11 (j + 1)) (F := zup3 Fm 14 0 16 (j + 1)) (B := Bm) km (by decide) (by rw [show (lnM 14 0 25 : Int) = 6 by decide]; omega) (by decide) (by decide) (by omega) (fun y p q => by rw [← (l4 y p q).1]; exact (l4 y p q).2.1) (by omega)
    have e16 : (zup3 Fm 14 0 16 (j + 1)) 14 0 16 = j + 1 := by simp [zup3_v]
    rw [if_neg z, if_neg z, e11, if_pos ⟨by omega, k10⟩, e2, e16, if_pos (show 0 ≤ j + 1 ∧ j + 1 < 3001 by omega), b27, mn]
    rcases fdR_r (row := Bm 14 0 25) (m := L) (w := Bm 14 0 11 (j + 1)) (f := 22) (k := 0) (by omega) with n1 | ⟨n1, n2, n3⟩
    · have er := PS_err (s := 4) (s' := 4) hE hS1 (by rw [if_neg (by omega)]) (by decide)
      rw [n1, if_pos (show (-1 : Int) < 0 by decide)] at ln
      rw [ln, n1]
      simp only [zb_s]
      rw [if_pos (show r32 (-1) by decide), if_pos trivial, if_pos (show r32 (-1) by decide), if_neg (show ¬ (0 : Int) ≤ -1 by decide), C_refuse hX1, L_fail hg1 (by rw [e16]; omega)]
      simp only [zb_s]
      rw [if_pos (by decide)]
      simp only [zb_s]
      rw [if_pos (by decide), L_202 (by omega)]
      exact zP_s ⟨fF_e gF, fG_e gG, fB_r, fH_u fH_r (by decide) (by decide) (Int.le_refl _), Or.inr ⟨rfl, er⟩⟩
    · have nmn := fdR_n (row := Bm 14 0 25) (m := L) (w := Bm 14 0 11 (j + 1)) (f := 22) (k := 0) (Int.le_refl _)
      have rt := l4 _ n1 n2
      have hr13 := rt.2.2
      have hroot : 0 ≤ B 3 0 13 (fdR (Bm 14 0 25) L (Bm 14 0 11 (j + 1)) 22 0) ∧ B 3 0 13 (fdR (Bm 14 0 25) L (Bm 14 0 11 (j + 1)) 22 0) < 3000 := hr13
      rw [if_neg (show ¬ fdR (Bm 14 0 25) L (Bm 14 0 11 (j + 1)) 22 0 < 0 by omega)] at ln
      rw [ln]
      simp only [zb_s]
      rw [if_pos (show r32 (B 3 0 13 (fdR (Bm 14 0 25) L (Bm 14 0 11 (j + 1)) 22 0)) by omega), if_neg (show ¬ B 3 0 13 (fdR (Bm 14 0 25) L (Bm 14 0 11 (j + 1)) 22 0) = -1 by omega), if_pos (show r32 (fdR (Bm 14 0 25) L (Bm 14 0 11 (j + 1)) 22 0) by omega), if_pos n1, if_pos hx, e11, if_pos ⟨by omega, k10⟩, C_adv (CX_b hX1), advF_b, e16]
      simp only [zb_s]
      rw [if_pos (by decide), L_202 (by omega)]
      have hX2 : fX [2] x (F 3 0 15) B (zup4 B 3 0 2 x (B 3 0 13 (fdR (Bm 14 0 25) L (Bm 14 0 11 (j + 1)) 22 0))) := fX_u fX_r (Or.inl ⟨by decide, rfl⟩)
      have hB2 := fX_B (lo := x) hX2 (by decide) (Int.le_refl _)
      refine zP_s (IPO_l (j' := j + 1 + 1) (by omega) (by omega) (fF_a gF) (fG_u gG (by decide) (by decide)) hX2 (PS_f (PS_step hE hS1 (by omega)) hB2 (fH_r (fr := 0))) ?_ ?_ ?_ hF.2.2.2.2.2.1 ?_)
      · rw [advF_o (by decide), advF_o (by decide)]
      · rw [advF_o (by decide), advF_o (by decide)]
      · rw [advF_o (by decide), advF_o (by decide)]
      · intro Bx By gx w lr
        obtain ⟨p1, p0⟩ := IRn_at (R := IRd L d) hF gx w (fun k hk => by rw [fX_3 hX2 (by simp; omega) (by omega)])
        refine ⟨p1, Or.inr (Or.inr (Or.inr ⟨p0, wdAt_c wd w, fdR (Bm 14 0 25) L (Bm 14 0 11 (j + 1)) 22 0, ⟨n1, n2⟩, ?_, ?_, ?_⟩))⟩
        · rw [(lr _ n1 n2).2, w 11 (by decide) (by decide)]; exact n3
        · rw [(lr _ n1 n2).1, gx 2 (by decide) (by decide)]; simp [zup4_v]
        · intro p q0 q1
          rw [(lr p q0 (by omega)).2, w 11 (by decide) (by decide)]
          exact nmn p q0 q1
end
end
section
section
/-! ===== brackets, on both sides ===== -/
theorem P_tup {L : Int} {d : Nat} {K : zK} {Km : Nat} {N j x : Int} {o o' o'' : oT_CP} {om om' : oT_P} {F : zF} {B : zB} {Fm : zF} {Bm : zB} (hx : 0 ≤ x ∧ x < 3000) (hxi : x + 1 = F 3 0 14) (hij : F 3 0 14 ≤ j + 1) (hE : EV K Km N B Bm) (hS : PS N j F B Fm Bm) (hd : F 3 0 18 + d = 8) (hdp : 1 ≤ F 3 0 18) (hLT : LT L F B Fm Bm) (hF : fresh B Bm x j 3) (sg : sgAt Bm j 91) (hoc : ∀ l0 l1 F B, o.2.2.2.1 l0 l1 F B = fb_Parser_takeBracket o' K l0 l1 F B) (hoc2 : ∀ l0 l1 F B, o'.2.1 l0 l1 F B = fb_Parser_takeMusic o'' K l0 l1 F B) (hom : ∀ F B, om.2.2.1 F B = fb_M_tuplet om' Km F B) (hI : ∀ d', d = d' + 1 → ItemSim L K Km N d' o''.2.2.1 om'.2.1) (hB : ItemBad K Km N om'.2.1) : zP (fb_Parser_takeItem o K 0 x F B) (fb_M_item om Km Fm Bm) (fun r F' B' _ Fm' Bm' => IPO L d N j x F B Fm Bm r F' B' Fm' Bm') := by
  have hg := hS.2.2.2.1
  have hX := PS_CX hE hS
  have hM := PS_MX hE hS
  have h5 := sg.1
  have jj := hS.2.1.1
  have nn := hE.1.2.1
  have hdd := hS.2.2.2.2.2.1
  have k3 := hE.2.2.2.1
  have k1 := hE.2.2.2.2.2.1
  have km := hE.2.2.2.2.2.2
  have t : ∀ c, r32 c → f_M_isSign Km c Fm Bm = some (if 91 = c then 1 else 0, Fm, Bm) := fun c hc => L_sg hM sg hc
  have s91 : sgm Bm j 91 = 1 := by unfold sgm; rw [if_pos (show Bm 14 0 7 j = 5 ∧ Bm 14 0 9 j = 91 from sg)]
  have lpB : ∀ {F : zF} {B : zB}, bad F → f_M_tuplet_41 om' Km Km j F B = some (0, F, B) := by
    intro F B hb
    obtain ⟨m, rfl⟩ : ∃ y, Km = y + 1 := ⟨Km - 1, by omega⟩
    unfold f_M_tuplet_41 f_M_tuplet_64
    rw [L_goodB hb]
    simp only [zb_s]
    rw [if_pos (by decide), if_pos trivial, L_closingB hb]
    rfl
  have hH0 : ∀ {Bm' : zB} {v : Int}, fH j Bm' (zup4 Bm' 14 0 31 j v) := fH_u fH_r (by decide) (by decide) (Int.le_refl _)
  rw [C_itemT hX hx hF.1, hoc]
  unfold fb_M_item
  rw [hM.1, if_pos (by omega), if_pos (by omega), if_neg (by omega)]
  simp only [t 60 (by decide), t 124 (by decide), t 33 (by decide), t 91 (by decide), zb_s, ir0, ir1, if_true, if_false, Int.reduceEq]
  rw [hom]
  unfold fb_Parser_takeBracket fb_M_tuplet f_Parser_takeBracket_50 f_Parser_takeBracket_51
  simp only [show ∀ {a b : zO}, (if ((0 : Int) = 0 ∨ (0 : Int) = 1) then a else b) = a from fun {a b} => if_pos (Or.inl rfl), show ∀ {a b : zO}, (if ((1 : Int) = 0 ∨ (1 : Int) = 1) then a else b) = a from fun {a b} => if_pos (Or.inr rfl)]
  rw [if_pos ⟨by omega, k3⟩, C_takeOpening hX (by decide) hdd.2, L_opening hg hM (by decide) (by omega), PS_sg hE hS, hM.1, s91, i10, i10]
  by_cases d8 : F 3 0 18 = 8
  · have er := PS_err (s := 3) (s' := 3) hE hS (by rw [if_neg (by omega)]) (by decide)
    rw [if_pos d8, if_pos (by omega)]
    simp only [zb_s, zb_a]
    rw [if_pos (by decide), if_pos trivial, if_pos (by decide), L_numberB er.2]
    simp only [zb_s]
    rw [L_needB er.2]
    simp only [zb_s]
    rw [L_numberB er.2]
    simp only [zb_s]
    rw [L_needB er.2]
    simp only [zb_s]
    rw [lpB er.2]
    simp only [zb_s]
    rw [if_pos (by decide), L_202 (by omega)]
    exact zP_s ⟨fF_e fF_r, fG_e fG_r, fB_r, hH0, Or.inr ⟨rfl, er⟩⟩
  · rw [if_neg d8, if_neg (by omega)]
    simp only [zb_s, zb_a]
    obtain ⟨d', rfl⟩ : ∃ y, d = y + 1 := ⟨d - 1, by omega⟩
    have hS1 := PS_step hE (PS_d (d := F 3 0 18 + 1) hS (by omega) (PS_pw hS hdp)) (by omega)
    have e19 : Fm 14 0 19 = F 3 0 18 := hdd.1.symm
    rw [if_pos (show r32 1 by decide), if_neg (show ¬ (1 : Int) = 0 by decide), e19, zb_a]
    have a14 : (advF (zup3 F 3 0 18 (F 3 0 18 + 1)) B) 3 0 14 = F 3 0 14 := by rw [advF_o (by decide)]; simp [zup3_v]
    have a15 : (advF (zup3 F 3 0 18 (F 3 0 18 + 1)) B) 3 0 15 = F 3 0 15 := by rw [advF_o (by decide)]; simp [zup3_v]
    have a18 : (advF (zup3 F 3 0 18 (F 3 0 18 + 1)) B) 3 0 18 = F 3 0 18 + 1 := by rw [advF_o (by decide)]; simp [zup3_v]
    have gF : fF F (advF (zup3 F 3 0 18 (F 3 0 18 + 1)) B) := fF_a (fF_u fF_r (by decide))
    have gG : fG Fm (zup3 (zup3 Fm 14 0 19 (F 3 0 18 + 1)) 14 0 16 (j + 1)) := fG_u (fG_u fG_r (by decide) (by decide)) (by decide) (by decide)
    refine P_frac hx hE hS1 (by decide) (by decide) ?_ ?_
    · intro F1 B1 Fm1 r1 q1 q2 q3 q4 q5 q6 q7 q8 q9
      rw [a14] at q7
      rw [a15] at q3 q8
      rw [a18] at q9
      have hB1 := fX_B (lo := x) q3 (by decide) (Int.le_refl _)
      have hE1 := EV_f hE hB1 (fH_r (fr := 0))
      simp only [ir1, i10, zb_a]
      rcases P_sig hE1 q4 (c := 58) (by decide) with ⟨g58, c2, m2, hS2⟩ | ⟨c2, m2, er⟩
      · rw [c2, m2]
        simp only [zb_s, ir1, i10]
        rw [hoc2]
        unfold fb_Parser_takeMusic
        have gF2 : fF F (advF F1 B1) := fF_a (fF_t gF q1)
        have gG2 : fG Fm (zup3 Fm1 14 0 16 (j + 1 + 3 + 1)) := fG_u (fG_t gG q2) (by decide) (by decide)
        have hLT2 := LT_k (fr := 0) (j := 0) hLT gF2 gG2 (fB_K hB1) (by decide) (fJ_H fH_r (Int.le_refl _))
        have b14 : (advF F1 B1) 3 0 14 = F 3 0 14 := by rw [advF_o (by decide)]; exact q7
        have b15 : (advF F1 B1) 3 0 15 = F 3 0 15 := by rw [advF_o (by decide)]; exact q8
        have b18 : (advF F1 B1) 3 0 18 = F 3 0 18 + 1 := by rw [advF_o (by decide)]; exact q9
        simp only [zb_a]
        rw [← zb_a]
        refine zP_c (P_music (o := o'') (lp := fun n F B => f_M_tuplet_41 om' Km n j F B) (c := 93) (fr := j) (kc := fun r11 F11 B11 => if r32 r11 then (if r11 = 0 then some (0, F11, B11) else zbind (f_Parser_takeClosing K 0 93 F11 B11) (fun r14 F14 B14 => if r32 r14 then (if r14 = 0 then some (0, F14, B14) else some (1, F14, B14)) else none)) else none) (hI d' rfl) hB (Or.inr rfl) jj.1 ?_ ?_ ?_ (q := 3001) (m := K.1) (m' := Km) (i := 0) (last := -1) (par := x) (j := j + 1 + 3 + 1) (x0 := x) (k0 := 4) (by omega) (by omega) (by omega) (by omega) (by omega) (by omega) (Or.inl ⟨rfl, rfl, rfl⟩) hx.1 (by omega) hx (by omega) hE1 hS2 (by omega) (by omega) hLT2 (by rw [fX_3 q3 (by decide) (by decide)]; exact hF.2.2.2.2.1)) (fun r F' B' r' Fm' Bm' hh => ?_)
        · intro n F B
          rfl
        · intro F B
          rfl
        · intro F B hX
          show (if r32 1 then (if (1 : Int) = 0 then _ else zbind (f_Parser_takeClosing K 0 93 F B) _) else none) = _
          rw [if_pos (by decide), if_neg (by decide), C_takeClosing hX (by decide)]
          by_cases w : sgn F 93 = 0
          · rw [if_pos w]; rfl
          · rw [if_neg w]; rfl
        · obtain ⟨g1, g2, g3, g4, g5⟩ := hh
          rw [b14, b15] at g3
          have hr : r = 0 ∨ r = 1 := by
            rcases g5 with z | z
            · exact Or.inr z.1
            · exact Or.inl z.1
          have gB : fB x (F 3 0 15) B B' := fun c i k y a b => by
            rw [g3 c i k y (fun z => a ⟨z.1, z.2.1, z.2.2.1, by have := z.2.2.2; omega⟩) b (fun z => a ⟨z.1, z.2.1, by have := z.2.2.1; omega, by have := z.2.2.2; omega⟩)]
            exact hB1 c i k y a b
          rw [if_pos hr, L_202 (by omega)]
          refine zP_s ⟨fF_t gF2 g1, fG_t gG2 g2, gB, fH_t (fJ_fH g4 (by omega)) hH0, ?_⟩
          rcases g5 with ⟨rfl, j', n, v1, v2, v3, v4, v5, v6, v7⟩ | er
          · have gk : ∀ k, k ≤ 7 → k ≠ 4 → B' 3 0 k x = B1 3 0 k x := fun k p q => g3 3 0 k x (fun z => by have := z.2.2.2; omega) (fun z => by have := z.2.2.1; omega) (fun z => q z.2.2.1)
            refine Or.inl ⟨rfl, Or.inl ⟨j', by omega, PS_f (lo := 0) (pl := 0) v2 fB_r hH0, ?_, by omega, by omega, by omega, ?_, ?_⟩⟩
            · simp [zup4_v]; exact v2.2.2.1
            · rw [gk 5 (by decide) (by decide), fX_3 q3 (by decide) (by decide)]; exact hF.2.2.2.2.2.1
            · intro Bx By ab am
              rw [v2.2.2.1] at am
              rw [b14, b15] at v7
              have hs : SLR L d' n (B' 3 0 4 x) (j + 1 + 3 + 1) (j' - 1) (F 3 0 14) (F' 3 0 14) (F 3 0 15) (F' 3 0 15) B' (zup4 Bm' 14 0 31 j j') := SLR_t v7 agB_r ⟨fun k y p q a b => by rw [zup4_v, if_neg (fun z => by have := z.2.2.2; omega)], fun k p q => by funext y; rw [zup4_v, if_neg (fun z => by have := z.2.2.1; omega)], fun q p a => by rw [zup4_v, if_neg (fun z => absurd z.2.2.1 (by decide))]⟩
              have gx : ∀ k, k ≤ 7 → k ≠ 5 → Bx 3 0 k x = B' 3 0 k x := fun k p q => ab.1 k x p (Int.le_refl _) (by omega) (fun z => q z.1)
              have w : ∀ k, 7 ≤ k → k ≤ 11 → By 14 0 k = Bm 14 0 k := fun k p q => by
                rw [am.2.1 k p q]
                funext y
                rw [zup4_v, if_neg (fun z => by have := z.2.2.1; omega), fJ_k g4 k (by omega)]
              have e30 : By 14 0 30 j = j' - 1 := by rw [am.1 30 j (by decide) (by decide) (Int.le_refl _) (by omega)]; simp [zup4_v]; exact v3
              obtain ⟨p1, p0⟩ := IRn_at (R := IRd L d') hF gx w (fun k hk => by rw [gk k (by omega) (by omega), fX_3 q3 (by simp; omega) (by omega)])
              refine Or.inr ⟨p1, Or.inl ⟨p0, sgAt_c sg w, ?_, ?_, by omega, by have h1 := hE.1.2.1; have h2 := v2.2.1.1.2; omega, n, ?_⟩⟩
              · rw [gx 2 (by decide) (by decide), gk 2 (by decide) (by decide)]; exact nmAt_c q5 w
              · rw [gx 3 (by decide) (by decide), gk 3 (by decide) (by decide)]
                rw [show j + 1 + 2 = j + 3 by omega] at q6
                exact nmAt_c q6 w
              · rw [e30, gx 4 (by decide) (by decide), show j + 5 = j + 1 + 3 + 1 by omega]
                exact hs Bx By (agB_m ab (by omega) (Int.le_refl _) (Int.le_refl _) (Int.le_refl _) (Or.inr (Or.inl (by omega)))) (agM_m am (by omega) (by omega))
          · exact Or.inr er
      · rw [c2, m2]
        simp only [zb_s, ir0, i00]
        rw [lpB er.2]
        simp only [zb_s]
        rw [if_pos (by decide), if_pos (by decide), L_202 (by omega)]
        exact zP_s ⟨fF_e (fF_t gF q1), fG_e (fG_t gG q2), hB1, hH0, Or.inr ⟨rfl, er⟩⟩
    · intro F1 B1 Fm1 r1 q1 q2 q3 er
      rw [a15] at q3
      simp only [ir0, i00, zb_s]
      rw [L_needB er.2]
      simp only [zb_s]
      rw [lpB er.2]
      simp only [zb_s]
      rw [if_pos (by decide), if_pos (by decide), L_202 (by omega)]
      exact zP_s ⟨fF_t gF q1, fG_t gG q2, fX_B q3 (by decide) (Int.le_refl _), hH0, Or.inr ⟨rfl, er⟩⟩
end
end
section
section
/-! ===== alternatives, on both sides ===== -/
noncomputable def SAL (L : Int) (d n : Nat) (y a e lo hi pl ph : Int) (B Bm : zB) : Prop := ∀ Bx By, agB L lo hi pl ph (-1) B Bx → agM L a e Bm By → ALf (IRd L d) Bx By n y a e
noncomputable def OKA (L : Int) (d : Nat) (N j x0 : Int) (k0 : Nat) (F : zF) (F' : zF) (B' : zB) (Fm' : zF) (Bm' : zB) : Prop := ∃ j' n, j + 2 ≤ j' ∧ PS N j' F' B' Fm' Bm' ∧ F' 3 0 18 = F 3 0 18 ∧ (F 3 0 14 ≤ F' 3 0 14 ∧ F' 3 0 14 - F 3 0 14 ≤ j' - j - 1) ∧ F 3 0 15 ≤ F' 3 0 15 ∧ SAL L (d - 1) n (B' 3 0 k0 x0) j j' (F 3 0 14) (F' 3 0 14) (F 3 0 15) (F' 3 0 15) B' Bm' ∧ 1 ≤ d
theorem agB_K {L lo hi pl ph x k0' : Int} {k0 : Nat} {x0 lo' pl' : Int} {B B' : zB} (h : fK k0 x0 lo' pl' B B') (h1 : hi ≤ lo') (h2 : ph ≤ pl') (h3 : x0 < lo) (h4 : k0 ≤ 7) : agB L lo hi pl ph x B B' := ⟨fun k y a b c _ => h 3 0 k y (fun z => by have := z.2.2.2; omega) (fun z => by have := z.2.2.1; omega) (fun z => by have := z.2.2.2; omega), fun k y a b c _ => h 3 0 k y (fun z => by have := z.2.2.1; omega) (fun z => by have := z.2.2.2.2; omega) (fun z => by have := z.2.2.1; omega), fun q _ _ => h 3 0 13 q (fun z => absurd z.2.2.1 (by decide)) (fun z => absurd z.2.2.2.1 (by decide)) (fun z => by have := z.2.2.1; omega)⟩
theorem L_103B {om : oT_P} {Km n : Nat} {Fm : zF} {Bm : zB} (hn : 0 < n) (hb : bad Fm) : f_M_itemOfWord_103 om Km n Fm Bm = some (0, Fm, Bm) := by
  obtain ⟨n, rfl⟩ : ∃ y, n = y + 1 := ⟨n - 1, by omega⟩
  unfold f_M_itemOfWord_103 f_M_itemOfWord_389
  rw [L_goodB hb]
  simp only [zb_s, ir0, if_true]
theorem P_alt {L : Int} {d : Nat} {K : zK} {Km : Nat} {N x : Int} {o : oT_CP} {om : oT_P} (hx : 0 ≤ x ∧ x < 3000) (hBk : BlkSim L K Km N d o.1 om.1) : ∀ {q m m' : Nat} {i last j x0 : Int} {k0 : Nat} {F : zF} {B : zB} {Fm : zF} {Bm : zB}, N - j < q → q < m → q < m' → 0 ≤ i → i ≤ j → (last = -1 ∧ k0 = 3 ∧ x0 = x ∨ last = x0 ∧ k0 = 5) → 0 ≤ x0 → x0 < F 3 0 14 → F 3 0 14 + 1 ≤ j → EV K Km N B Bm → PS N j F B Fm Bm → F 3 0 18 + d = 8 → 1 ≤ F 3 0 18 → LT L F B Fm Bm → zP (f_Parser_takeAlternatives_35 o (f_Parser_takeAlternatives_11 o K m) K i last 0 x F B) (zbind (om.1 Fm Bm) (fun _ F2 B2 => f_M_itemOfWord_103 om Km m' F2 B2)) (fun r F' B' _ Fm' Bm' => fF F F' ∧ fG Fm Fm' ∧ fK k0 x0 (F 3 0 14) (F 3 0 15) B B' ∧ fH j Bm Bm' ∧ (r = 1 ∧ OKA L d N j x0 k0 F F' B' Fm' Bm' ∨ r = 0 ∧ ERR F' Fm')) := by
  intro q
  induction q with
  | zero =>
    intro m m' i last j x0 k0 F B Fm Bm hN _ _ _ _ _ _ _ _ _ hS
    have := hS.2.1.1
    omega
  | succ q ih =>
    intro m m' i last j x0 k0 F B Fm Bm hN hm hm' i0 i1 hl x00 x01 hit hE hS hd hdp hLT
    obtain ⟨m, rfl⟩ : ∃ y, m = y + 1 := ⟨m - 1, by omega⟩
    obtain ⟨m', rfl⟩ : ∃ y, m' = y + 1 := ⟨m' - 1, by omega⟩
    have hX := PS_CX hE hS
    have jj := hS.2.1.1
    have nn := hE.1.2.1
    have ep := hS.2.1.2.2.1
    have k3 := hE.2.2.2.1
    have hx14 : 0 ≤ F 3 0 14 ∧ F 3 0 14 < 3000 := by omega
    have hK2 : fK k0 x0 (F 3 0 14) (F 3 0 15) B (zup4 (newB B (F 3 0 14) 10 (F 10 0 1)) 3 0 k0 x0 (F 3 0 14)) := fK_c (newB_k fK_r (Int.le_refl _))
    have hcls : f_Parser_takeAlternatives_35 o (f_Parser_takeAlternatives_11 o K (m + 1)) K i last 0 x F B = zbind (o.1 0 (F 3 0 14) (zup3 F 3 0 14 (F 3 0 14 + 1)) (zup4 (newB B (F 3 0 14) 10 (F 10 0 1)) 3 0 k0 x0 (F 3 0 14))) (fun r22 F22 B22 => if r32 r22 then (if r22 = 0 then some (0, F22, B22) else f_Parser_takeAlternatives_11 o K (m + 1) (i + 1) (F 3 0 14) 0 x F22 B22) else none) := by
      unfold f_Parser_takeAlternatives_35 f_Parser_takeAlternatives_67
      rw [if_pos ⟨Int.le_refl _, k3⟩, C_newItem hX hx14]
      simp only [zb_s]
      rcases hl with ⟨rfl, rfl, rfl⟩ | ⟨rfl, rfl⟩
      · rw [if_pos (show r32 (-1) by decide), if_pos rfl, if_pos hx, if_pos ⟨Int.le_refl _, k3⟩]
      · rw [if_pos (show r32 last by omega), if_neg (show ¬ last = -1 by omega), if_pos (show 0 ≤ last ∧ last < 3000 by omega), if_pos ⟨Int.le_refl _, k3⟩]
    have k07 : k0 ≤ 7 := by omega
    have hS1 := PS_k (PS_u (k := 14) (v := F 3 0 14 + 1) hS (by decide)) hK2 (fJ_H (fr := 0) (j := j) fH_r (Int.le_refl _))
    have hE1 := EV_k hE hK2 (fJ_H (fr := 0) (j := j) fH_r (Int.le_refl _))
    have gF0 : fF F (zup3 F 3 0 14 (F 3 0 14 + 1)) := fF_u fF_r (by decide)
    have hLT1 := LT_k hLT gF0 fG_r hK2 k07 (fJ_H (fr := 0) (j := j) fH_r (Int.le_refl _))
    have a14 : (zup3 F 3 0 14 (F 3 0 14 + 1)) 3 0 14 = F 3 0 14 + 1 := by simp [zup3_v]
    have a15 : (zup3 F 3 0 14 (F 3 0 14 + 1)) 3 0 15 = F 3 0 15 := by simp [zup3_v]
    have a18 : (zup3 F 3 0 14 (F 3 0 14 + 1)) 3 0 18 = F 3 0 18 := by simp [zup3_v]
    have gy : ∀ k, (zup4 (newB B (F 3 0 14) 10 (F 10 0 1)) 3 0 k0 x0 (F 3 0 14)) 3 0 k (F 3 0 14) = (newB B (F 3 0 14) 10 (F 10 0 1)) 3 0 k (F 3 0 14) := fun k => by rw [zup4_v, if_neg (fun w => by have := w.2.2.2; omega)]
    obtain ⟨b0, b1, b2, b3, b4, b5, b6, b7⟩ := newB_at (B := B) (x := F 3 0 14) (s := 10) (p := F 10 0 1)
    rw [hcls]
    refine zP_c (hBk (x := F 3 0 14) (j := j) hx14.1 (by omega) (by omega) hE1 hS1 (by omega) (PS_pw hS1 (by omega)) hLT1 (by rw [gy]; exact b4)) (fun r F1 B1 r' Fm1 Bm1 hh => ?_)
    obtain ⟨g1, g2, g3, g4, g5⟩ := hh
    rw [a14, a15] at g3
    have gF : fF F F1 := fF_t gF0 g1
    have gK : fK k0 x0 (F 3 0 14) (F 3 0 15) B B1 := fK_t hK2 (fK_K g3 (by omega) (Int.le_refl _) (Or.inr ⟨by decide, Int.le_refl _⟩))
    have hE2 := EV_B hE (fK_10 gK) (fun k hk => fH_k g4 k (by omega))
    have hcell : ∀ {B2 : zB}, fK 5 (F 3 0 14) (F1 3 0 14) (F1 3 0 15) B1 B2 → F 3 0 14 < F1 3 0 14 → B2 3 0 k0 x0 = F 3 0 14 := by
      intro B2 hk2 hlt
      rw [hk2 3 0 k0 x0 (fun w => by have := w.2.2.2; omega) (fun w => by have := w.2.2.1; omega) (fun w => by have := w.2.2.2; omega), g3 3 0 k0 x0 (fun w => by have := w.2.2.2; omega) (fun w => by have := w.2.2.1; omega) (fun w => by have := w.2.2.2; omega), zup4_v, if_pos ⟨rfl, rfl, rfl, rfl⟩]
    rcases g5 with ⟨rfl, j1, n1, v1, v2, v3, v4, v5, v6, v7, v8⟩ | ⟨rfl, er⟩
    · rw [a14] at v5 v7
      rw [a15] at v6 v7
      rw [a18] at v4
      have jj1 := v2.2.1.1
      have hX2 := PS_CX hE2 v2
      have hM2 := PS_MX hE2 v2
      have hg2 := v2.2.2.2.1
      have s := sgm_r Bm1 j1 123
      have k10 := hE.2.2.2.2.1
      have c5 : B1 3 0 5 (F 3 0 14) = -1 := by rw [g3 3 0 5 (F 3 0 14) (fun w => by have := w.2.2.2; omega) (fun w => absurd w.2.2.1 (by decide)) (fun w => absurd w.2.2.1 (by decide)), gy]; exact b5
      rw [if_pos (show r32 1 by decide), if_neg (show ¬ (1 : Int) = 0 by decide)]
      rw [f_Parser_takeAlternatives_11, f_M_itemOfWord_103]
      rw [if_pos (show r32 (i + 1) by omega), L_good hg2]
      simp only [zb_s]
      rw [if_pos (show r32 1 by decide), if_neg (show ¬ (1 : Int) = 0 by decide), L_isSign hM2 (by decide)]
      simp only [zb_s]
      rw [if_pos (show r32 (sgm Bm1 j1 123) by omega)]
      -- the block, as later worlds see it
      have blk : ∀ {B2 Bm2 Bx By : zB} {hi ph e : Int}, fK 5 (F 3 0 14) (F1 3 0 14) (F1 3 0 15) B1 B2 → fH j1 Bm1 Bm2 → F1 3 0 14 ≤ hi → F1 3 0 15 ≤ ph → j1 ≤ e → agB L (F 3 0 14) hi (F 3 0 15) ph (-1) B2 Bx → agM L j e Bm2 By → BKf (IRd L (d - 1)) Bx By (F 3 0 14) j ∧ By 14 0 30 j + 1 = j1 ∧ Bx 3 0 5 (F 3 0 14) = B2 3 0 5 (F 3 0 14) := by
        intro B2 Bm2 Bx By hi ph e h1 h2 h3 h4 h5 ab am
        have e4 : B2 3 0 4 (F 3 0 14) = B1 3 0 4 (F 3 0 14) := h1 3 0 4 (F 3 0 14) (fun w => by have := w.2.2.2; omega) (fun w => absurd w.2.2.1 (by decide)) (fun w => absurd w.2.2.1 (by decide))
        have e30 : Bm2 14 0 30 j = j1 - 1 := by rw [h2 14 0 30 j (fun w => by have := w.2.2.2.2; omega)]; exact v3
        have sl : SLR L (d - 1) n1 (B2 3 0 4 (F 3 0 14)) (j + 1) (j1 - 1) (F 3 0 14 + 1) (F1 3 0 14) (F 3 0 15) (F1 3 0 15) B2 Bm2 := by
          rw [e4]
          exact SLR_t v7 (agB_K (k0' := 0) h1 (Int.le_refl _) (Int.le_refl _) (by omega) (by decide)) (agM_f h2 (by omega))
        refine ⟨BK_of (agB_m ab (Int.le_refl _) (Int.le_refl _) (Int.le_refl _) (Int.le_refl _) (Or.inr (Or.inl (by omega)))) am sl e30 (by omega) h3 (Int.le_refl _) h4 (Int.le_refl _) h5 v1 (by omega) (by have h1 := hE.1.2.1; have h2 := v2.2.1.1.2; omega), ?_, ?_⟩
        · rw [am.1 30 j (by decide) (by decide) (Int.le_refl _) (by omega), e30]; omega
        · exact ab.1 5 _ (by decide) (Int.le_refl _) (by omega) (fun w => by have := w.2; omega)
      by_cases z : sgm Bm1 j1 123 = 0
      · have hend : (if 3000 ≤ i + 1 then f_Parser_takeAlternatives_87 o K F1 B1 else if r32 (F 3 0 14) then (if F 3 0 14 = -1 then f_Parser_takeAlternatives_35 o (f_Parser_takeAlternatives_11 o K m) K (i + 1) (F 3 0 14) 0 x F1 B1 else if 0 ≤ (0 : Int) ∧ (0 : Int) < K.2 3 then if 0 ≤ F1 3 0 11 ∧ F1 3 0 11 < K.2 10 then zbind (f_Tokens_isSign K (F1 3 0 11) 123 F1 B1) (fun r10 F10 B10 => if r32 r10 then (if r10 = 0 then f_Parser_takeAlternatives_87 o K F10 B10 else f_Parser_takeAlternatives_35 o (f_Parser_takeAlternatives_11 o K m) K (i + 1) (F 3 0 14) 0 x F10 B10) else none) else none else none) else none) = some (1, F1, B1) := by
          by_cases a : 3000 ≤ i + 1
          · rw [if_pos a]; rfl
          · rw [if_neg a, if_pos (show r32 (F 3 0 14) by omega), if_neg (show ¬ F 3 0 14 = -1 by omega), if_pos ⟨Int.le_refl _, k3⟩, v2.1, if_pos ⟨Int.le_refl _, k10⟩, C_isSign hX2 (by decide), PS_sg hE2 v2]
            simp only [zb_s]
            rw [z, if_pos (by decide), if_pos rfl]; rfl
        rw [hend, if_pos z]
        unfold f_M_itemOfWord_389
        refine zP_s ⟨gF, g2, gK, g4, Or.inl ⟨rfl, j1, 1, v1, v2, v4, by omega, by omega, ?_, v8⟩⟩
        rw [hcell fK_r (by omega)]
        intro Bx By ab am
        obtain ⟨q1, q2, q3⟩ := blk fK_r fH_r (Int.le_refl _) (Int.le_refl _) (Int.le_refl _) ab am
        exact ⟨hx14, q1, Or.inl ⟨by rw [q3]; exact c5, q2⟩⟩
      · have z' := Decidable.not_not.mp (mt sgm_0.mpr z)
        have tk1 := hE2.1.2.2 j1 jj1.1 jj1.2
        have hj1N : j1 < N := by
          have : ¬ j1 = N := fun w => by have := tk1.2.2.2.1.mpr w; omega
          omega
        have hLT2 := LT_k hLT gF g2 gK k07 (fJ_H (fr := 0) g4 (Int.le_refl _))
        rw [if_neg z, if_neg (show ¬ 3000 ≤ i + 1 by omega), if_pos (show r32 (F 3 0 14) by omega), if_neg (show ¬ F 3 0 14 = -1 by omega), if_pos ⟨Int.le_refl _, k3⟩, v2.1, if_pos ⟨Int.le_refl _, k10⟩, C_isSign hX2 (by decide), PS_sg hE2 v2]
        simp only [zb_s]
        rw [if_pos (show r32 (sgm Bm1 j1 123) by omega), if_neg z]
        refine zP_m (ih (m := m) (m' := m') (i := i + 1) (last := F 3 0 14) (j := j1) (x0 := F 3 0 14) (k0 := 5) (by omega) (by omega) (by omega) (by omega) (by omega) (Or.inr ⟨rfl, rfl⟩) hx14.1 (by omega) (by omega) hE2 v2 (by omega) (by omega) hLT2) (fun r F' B' r' Fm' Bm' hh => ?_)
        obtain ⟨w1, w2, w3, w4, w5⟩ := hh
        refine ⟨fF_t gF w1, fG_t g2 w2, fK_t gK (fK_K w3 (by omega) (by omega) (Or.inr ⟨by decide, Int.le_refl _⟩)), fH_t g4 (fH_m w4 (by omega)), ?_⟩
        rcases w5 with ⟨rfl, j2, n, u1, u2, u3, u4, u5, u6, u7⟩ | er
        · refine Or.inl ⟨rfl, j2, n + 1, by omega, u2, by omega, by omega, by omega, ?_, v8⟩
          rw [hcell w3 (by omega)]
          intro Bx By ab am
          obtain ⟨q1, q2, q3⟩ := blk w3 w4 (by omega) (by omega) (by omega) ab am
          refine ⟨hx14, q1, Or.inr ⟨by omega, ?_⟩⟩
          rw [q2, q3]
          exact u6 Bx By (agB_m ab (by omega) (Int.le_refl _) (by omega) (Int.le_refl _) (Or.inl rfl)) (agM_m am (by omega) (Int.le_refl _))
        · exact Or.inr er
    · rw [if_pos (show r32 0 by decide), if_pos rfl, L_103B (by omega) er.2]
      exact zP_s ⟨gF, g2, gK, g4, Or.inr ⟨rfl, er⟩⟩
end
end
section
section
/-! ===== repeats, on both sides ===== -/
theorem P_repeat {L : Int} {d : Nat} {K : zK} {Km : Nat} {N j x : Int} {o o' o'' : oT_CP} {om om' : oT_P} {F : zF} {B : zB} {Fm : zF} {Bm : zB} (hx : 0 ≤ x ∧ x < 3000) (hxi : x + 1 = F 3 0 14) (hij : F 3 0 14 ≤ j + 1) (hE : EV K Km N B Bm) (hS : PS N j F B Fm Bm) (hd : F 3 0 18 + d = 8) (hdp : 1 ≤ F 3 0 18) (hLT : LT L F B Fm Bm) (hF : fresh B Bm x j 4) (wd : wdAt Bm j 125780002955636) (ho : ∀ F B, om.2.2.2 F B = fb_M_itemOfWord om' Km F B) (hoc : ∀ l0 l1 F B, o.2.2.2.2.1 l0 l1 F B = fb_Parser_takeRepeat o' K l0 l1 F B) (hoa : ∀ l0 l1 F B, o'.2.2.2.2.2.1 l0 l1 F B = fb_Parser_takeAlternatives o'' K l0 l1 F B) (hBk : BlkSim L K Km N d o'.1 om'.1) (hBk2 : BlkSim L K Km N d o''.1 om'.1) (hBd : BlkBad om'.1) : zP (fb_Parser_takeItem o K 0 x F B) (fb_M_item om Km Fm Bm) (fun r F' B' _ Fm' Bm' => IPO L d N j x F B Fm Bm r F' B' Fm' Bm') := by
  have hM := PS_MX hE hS
  have h4 := wd.1
  have jj := hS.2.1.1
  have nn := hE.1.2.1
  have km := hE.2.2.2.2.2.2
  have k1 := hE.2.2.2.2.2.1
  have k3 := hE.2.2.2.1
  have k10 := hE.2.2.2.2.1
  have t : ∀ c, r64 c → f_M_isWord Km c Fm Bm = some (if 125780002955636 = c then 1 else 0, Fm, Bm) := fun c hc => L_wd hM wd hc
  have hS1 := PS_step hE hS (by omega)
  have a14 : (advF F B) 3 0 14 = F 3 0 14 := advF_o (by decide)
  have a15 : (advF F B) 3 0 15 = F 3 0 15 := advF_o (by decide)
  have a18 : (advF F B) 3 0 18 = F 3 0 18 := advF_o (by decide)
  have gF : fF F (advF F B) := fF_a fF_r
  have gG : fG Fm (zup3 Fm 14 0 16 (j + 1)) := fG_u fG_r (by decide) (by decide)
  have hH0 : ∀ {Bm' : zB} {v : Int}, fH j Bm' (zup4 Bm' 14 0 31 j v) := fH_u fH_r (by decide) (by decide) (Int.le_refl _)
  rw [C_itemR (PS_CX hE hS) hx hF.1, L_itemW hM wd ho, hoc]
  unfold fb_M_itemOfWord f_M_itemOfWord_389 fb_Parser_takeRepeat f_Parser_takeRepeat_53 f_Parser_takeRepeat_58
  simp only [t 114 (by decide), t 125780002955636 (by decide), zb_s, zb_a, ir0, ir1, if_true, if_false, Int.reduceEq, hM.1]
  simp only [show ∀ {a b : zO}, (if (True ∨ False) then a else b) = a from fun {a b} => if_pos (Or.inl trivial), show ∀ {a b : zO}, (if (False ∨ True) then a else b) = a from fun {a b} => if_pos (Or.inr trivial), true_or, or_true, if_true]
  rw [if_pos ⟨Int.le_refl _, k3⟩]
  rcases P_num hE hS1 (lo := 2) (hi := 4) (by decide) (by decide) with ⟨n1, n2, n3, c1, m1, hS2⟩ | ⟨s, s', v, c1, m1, er⟩
  · rw [c1, m1]
    simp only [zb_s, zb_a, ir1, i10]
    have e19 : (advF (zup3 (advF F B) 3 0 19 (Bm 14 0 9 (j + 1))) B) 3 0 19 = Bm 14 0 9 (j + 1) := by rw [advF_o (by decide)]; simp [zup3_v]
    rw [if_pos hx, e19, zb_a]
    have hXA : fX [2] x (F 3 0 15) B (zup4 B 3 0 2 x (Bm 14 0 9 (j + 1))) := fX_u fX_r (Or.inl ⟨by decide, rfl⟩)
    have hB2 := fX_B (lo := x) hXA (by decide) (Int.le_refl _)
    have hE2 := EV_f hE hB2 (fH_r (fr := 0))
    have hS2' := PS_f hS2 hB2 (fH_r (fr := 0))
    have b14 : (advF (zup3 (advF F B) 3 0 19 (Bm 14 0 9 (j + 1))) B) 3 0 14 = F 3 0 14 := by rw [advF_o (by decide)]; simp [zup3_v]; exact a14
    have b15 : (advF (zup3 (advF F B) 3 0 19 (Bm 14 0 9 (j + 1))) B) 3 0 15 = F 3 0 15 := by rw [advF_o (by decide)]; simp [zup3_v]; exact a15
    have b18 : (advF (zup3 (advF F B) 3 0 19 (Bm 14 0 9 (j + 1))) B) 3 0 18 = F 3 0 18 := by rw [advF_o (by decide)]; simp [zup3_v]; exact a18
    have gF2 : fF F (advF (zup3 (advF F B) 3 0 19 (Bm 14 0 9 (j + 1))) B) := fF_a (fF_u gF (by decide))
    have gG2 : fG Fm (zup3 (zup3 Fm 14 0 16 (j + 1)) 14 0 16 (j + 1 + 1)) := fG_u gG (by decide) (by decide)
    have hLT2 := LT_k (fr := 0) (j := 0) hLT gF2 gG2 (fB_K hB2) (by decide) (fJ_H fH_r (Int.le_refl _))
    refine zP_c (hBk (x := x) (j := j + 1 + 1) hx.1 (by omega) (by omega) hE2 hS2' (by omega) (PS_pw hS2' (by omega)) hLT2 (by rw [fX_3 hXA (by decide) (by decide)]; exact hF.2.2.2.2.1)) (fun r F3 B3 r' Fm3 Bm3 hh => ?_)
    have hh0 := hh
    obtain ⟨g1, g2, g3, g4, g5⟩ := hh
    rw [b14, b15] at g3
    rcases g5 with ⟨rfl, j3, n, v1, v2, v3, v4, v5, v6, v7, v8⟩ | ⟨rfl, er⟩
    · rw [b14] at v5 v7
      rw [b15] at v6 v7
      rw [b18] at v4
      have hK3 : fK 4 x (F 3 0 14) (F 3 0 15) (zup4 B 3 0 2 x (Bm 14 0 9 (j + 1))) B3 := g3
      have hE3 := EV_B hE2 (fK_10 hK3) (fun k hk => fH_k g4 k (by omega))
      have hX3 := PS_CX hE3 v2
      have hM3 := PS_MX hE3 v2
      have hg3 := v2.2.2.2.1
      have jj3 := v2.2.1.1
      have wr3 := wdm_r Bm3 j3 6384756
      have gk3 : ∀ k, k ≤ 7 → k ≠ 4 → B3 3 0 k x = (zup4 B 3 0 2 x (Bm 14 0 9 (j + 1))) 3 0 k x := fun k p q => hK3 3 0 k x (fun z => by have := z.2.2.2; omega) (fun z => by have := z.2.2.1; omega) (fun z => q z.2.2.1)
      simp only [ir1, i10, L_good hg3, zb_s]
      rw [v2.1, if_pos ⟨Int.le_refl _, k10⟩, C_isWord hX3 (by decide), PS_wd hE3 v2, L_isWord hM3 (by decide)]
      simp only [zb_s]
      rw [if_pos (show r32 (wdm Bm3 j3 6384756) by omega), if_pos (show r32 (wdm Bm3 j3 6384756) by omega)]
      by_cases z : wdm Bm3 j3 6384756 = 0
      · rw [if_pos z, if_pos z]
        simp only [zb_s]
        rw [if_pos (by decide), L_202 (by omega)]
        refine zP_s (IPO_B (j := j) hh0 hE.1.2.1 (by omega) hxi gF2 gG2 hB2 b14 b15 b18 (by rw [fX_3 hXA (by decide) (by decide)]; exact hF.2.2.2.2.2.1) ?_ (Or.inr rfl))
        intro j' n' Bx By h1 _ am bk _ h30 h31 gx w g0
        obtain ⟨p1, p0⟩ := IRn_at hF gx w (fun k hk => by rw [g0 k (by omega) (by omega), fX_3 hXA (by simp; omega) (by omega)]) (R := IRd L (d - 1))
        have hj' : By 14 0 30 (j + 1 + 1) + 1 = j' := by
          rw [am.1 30 (j + 1 + 1) (by decide) (by decide) (by omega) (by omega), zup4_v, if_neg (fun q => absurd q.2.2.1 (by decide)), h30]
          omega
        refine ⟨p1, Or.inr (Or.inl ⟨p0, wdAt_c wd w, ?_, ?_, Or.inl ⟨?_, ?_⟩⟩)⟩
        · rw [gx 2 (by decide) (by decide), g0 2 (by decide) (by decide)]
          simp only [zup4_v]
          exact nmAt_c ⟨n1, by simp, by simpa using n2, by simpa using n3⟩ w
        · rw [show j + 2 = j + 1 + 1 by omega]; exact bk
        · rw [gx 3 (by decide) (by decide), g0 3 (by decide) (by decide), fX_3 hXA (by decide) (by decide)]; exact hF.2.2.2.1
        · rw [h31, show j + 2 = j + 1 + 1 by omega]; exact hj'
      · have z' := Decidable.not_not.mp (mt wdm_0.mpr z)
        have hS4 := PS_step hE3 v2 (by omega)
        have hLT3 := LT_k hLT (fF_t gF2 g1) (fG_t gG2 g2) (fK_t (fK_K (fB_K hB2) (lo := x) (pl := F 3 0 15) (Int.le_refl _) (Int.le_refl _) (Or.inr ⟨by decide, Int.le_refl _⟩)) (fK_K hK3 (by omega) (Int.le_refl _) (Or.inl ⟨rfl, rfl⟩))) (by decide) (fJ_H (fr := 0) (j := 0) g4 (by omega))
        have hLT4 := LT_k (k0 := 0) (x0 := 0) (lo := 0) (pl := 0) (fr := 0) (j := 0) hLT3 (fF_a (B := B3) fF_r) (fG_u (k := 16) (v := j3 + 1) fG_r (by decide) (by decide)) fK_r (by decide) (fJ_H fH_r (Int.le_refl _))
        obtain ⟨kk, hkk⟩ : ∃ y, K.1 = y + 1 := ⟨K.1 - 1, by omega⟩
        rw [if_neg z, if_neg z, hoa, hM3.1]
        unfold fb_Parser_takeAlternatives
        rw [if_pos ⟨Int.le_refl _, k3⟩, v2.1, if_pos ⟨Int.le_refl _, k10⟩, C_adv hX3]
        simp only [zb_s, zb_a]
        rw [hkk, f_Parser_takeAlternatives_11]
        rw [if_pos (show r32 0 by decide), if_neg (show ¬ (3000 : Int) ≤ 0 by decide), if_pos (show r32 (-1) by decide), if_pos rfl]
        rw [show ∀ X, zbind (om'.1 (zup3 Fm3 14 0 16 (j3 + 1)) Bm3) (fun _ F2 B2 => zbind (f_M_itemOfWord_103 om' Km Km F2 B2) X) = zbind (zbind (om'.1 (zup3 Fm3 14 0 16 (j3 + 1)) Bm3) (fun _ F2 B2 => f_M_itemOfWord_103 om' Km Km F2 B2)) X from fun X => zb_a.symm]
        refine zP_c (P_alt (x := x) (o := o'') (om := om') hx hBk2 (q := 3001 - 1) (m := kk) (m' := Km) (i := 0) (last := -1) (j := j3 + 1) (x0 := x) (k0 := 3) (by omega) (by omega) (by omega) (by omega) (by omega) (Or.inl ⟨rfl, rfl, rfl⟩) hx.1 (by rw [advF_o (by decide)]; omega) (by rw [advF_o (by decide)]; omega) hE3 hS4 (by rw [advF_o (by decide)]; omega) (by rw [advF_o (by decide)]; omega) hLT4) (fun r F5 B5 r' Fm5 Bm5 hh => ?_)
        obtain ⟨y1, y2, y3, y4, y5⟩ := hh
        have d14 : (advF F3 B3) 3 0 14 = F3 3 0 14 := advF_o (by decide)
        have d15 : (advF F3 B3) 3 0 15 = F3 3 0 15 := advF_o (by decide)
        have d18 : (advF F3 B3) 3 0 18 = F3 3 0 18 := advF_o (by decide)
        rw [d14, d15] at y3
        have hr : r = 0 ∨ r = 1 := by
          rcases y5 with q | q
          · exact Or.inr q.1
          · exact Or.inl q.1
        have gB : fB x (F 3 0 15) B B5 := fun c i k y a b => by
          rw [y3 c i k y (fun q => a ⟨q.1, q.2.1, q.2.2.1, by have := q.2.2.2; omega⟩) (fun q => b ⟨q.1, q.2.1, q.2.2.1, q.2.2.2.1, by have := q.2.2.2.2; omega⟩) (fun q => a ⟨q.1, q.2.1, by have := q.2.2.1; omega, by have := q.2.2.2; omega⟩)]
          rw [hK3 c i k y (fun q => a ⟨q.1, q.2.1, q.2.2.1, by have := q.2.2.2; omega⟩) b (fun q => a ⟨q.1, q.2.1, by have := q.2.2.1; omega, by have := q.2.2.2; omega⟩)]
          exact hB2 c i k y a b
        have gFF := fF_t (fF_t gF2 g1) (fF_t (fF_a (B := B3) fF_r) y1)
        have gGG := fG_t (fG_t gG2 g2) (fG_t (fG_u fG_r (by decide) (by decide)) y2)
        have gHH : fH j Bm Bm5 := fH_t (fH_m g4 (by omega)) (fH_m y4 (by omega))
        have fin : (if r32 r then (if r = 0 then some (0, F5, B5) else some (1, F5, B5)) else none) = some (r, F5, B5) := by
          rcases hr with rfl | rfl
          · rw [ir0, i00]
          · rw [ir1, i10]
        rw [L_202 (by omega), fin]
        simp only [zb_s]
        rw [if_pos hr]
        refine zP_s ⟨gFF, gGG, gB, fH_t gHH hH0, ?_⟩
        rcases y5 with ⟨rfl, j5, n5, u1, u2, u3, u4, u5, u6, u7⟩ | er
        · rw [d14] at u4 u6
          rw [d15] at u5 u6
          rw [d18] at u3
          have gk5 : ∀ k, k ≤ 7 → k ≠ 4 → k ≠ 3 → B5 3 0 k x = (zup4 B 3 0 2 x (Bm 14 0 9 (j + 1))) 3 0 k x := fun k p q q3 => by
            rw [y3 3 0 k x (fun w => by have := w.2.2.2; omega) (fun w => by have := w.2.2.1; omega) (fun w => q3 w.2.2.1)]; exact gk3 k p q
          have e4 : B5 3 0 4 x = B3 3 0 4 x := y3 3 0 4 x (fun w => by have := w.2.2.2; omega) (fun w => absurd w.2.2.1 (by decide)) (fun w => absurd w.2.2.1 (by decide))
          refine Or.inl ⟨rfl, Or.inl ⟨j5, by omega, PS_f (lo := 0) (pl := 0) u2 fB_r hH0, ?_, by omega, by omega, by omega, ?_, ?_⟩⟩
          · simp [zup4_v]; exact u2.2.2.1
          · rw [gk5 5 (by decide) (by decide) (by decide), fX_3 hXA (by decide) (by decide)]; exact hF.2.2.2.2.2.1
          · intro Bx By ab am
            rw [u2.2.2.1] at am
            have gx : ∀ k, k ≤ 7 → k ≠ 5 → Bx 3 0 k x = B5 3 0 k x := fun k p q => ab.1 k x p (Int.le_refl _) (by omega) (fun w => q w.1)
            have w : ∀ k, 7 ≤ k → k ≤ 11 → By 14 0 k = Bm 14 0 k := fun k p q => by
              rw [am.2.1 k p q]
              funext y
              rw [zup4_v, if_neg (fun w => by have := w.2.2.1; omega), fH_k gHH k (by omega)]
            have e30 : By 14 0 30 (j + 1 + 1) = j3 - 1 := by
              rw [am.1 30 (j + 1 + 1) (by decide) (by decide) (by omega) (by omega), zup4_v, if_neg (fun q => absurd q.2.2.1 (by decide)), y4 14 0 30 (j + 1 + 1) (fun q => by have := q.2.2.2.2; omega)]
              exact v3
            have e31 : By 14 0 31 j = j5 := by rw [am.1 31 j (by decide) (by decide) (Int.le_refl _) (by omega)]; simp [zup4_v]
            have aM5 : agM L (j + 1) j5 Bm5 (zup4 Bm5 14 0 31 j j5) := ⟨fun k y p q a b => by rw [zup4_v, if_neg (fun w => by have := w.2.2.2; omega)], fun k p q => by funext y; rw [zup4_v, if_neg (fun w => by have := w.2.2.1; omega)], fun q p a => by rw [zup4_v, if_neg (fun w => absurd w.2.2.1 (by decide))]⟩
            have hs : SLR L (d - 1) n (B5 3 0 4 x) (j + 1 + 1 + 1) (j3 - 1) (F 3 0 14) (F3 3 0 14) (F 3 0 15) (F3 3 0 15) B5 (zup4 Bm5 14 0 31 j j5) := by
              rw [e4]
              exact SLR_t v7 (agB_K (k0' := 0) y3 (Int.le_refl _) (Int.le_refl _) (by omega) (by decide)) (agM_t (agM_f y4 (by omega)) (agM_m aM5 (by omega) (by omega)))
            have bk : BKf (IRd L (d - 1)) Bx By x (j + 1 + 1) := BK_of ab am hs (by rw [zup4_v, if_neg (fun q => absurd q.2.2.1 (by decide)), y4 14 0 30 (j + 1 + 1) (fun q => by have := q.2.2.2.2; omega)]; exact v3) (by omega) (by omega) (Int.le_refl _) (by omega) (by omega) (by omega) (by omega) (by omega) (by have h1 := hE.1.2.1; have h2 := v2.2.1.1.2; omega)
            obtain ⟨p1, p0⟩ := IRn_at hF gx w (fun k hk => by rw [gk5 k (by omega) (by omega) (by omega), fX_3 hXA (by simp; omega) (by omega)]) (R := IRd L (d - 1))
            obtain ⟨d', rfl⟩ : ∃ y, d = y + 1 := ⟨d - 1, by omega⟩
            refine Or.inr ⟨p1, Or.inr (Or.inl ⟨p0, wdAt_c wd w, ?_, ?_, Or.inr ⟨n5, ?_⟩⟩)⟩
            · rw [gx 2 (by decide) (by decide), gk5 2 (by decide) (by decide) (by decide)]
              simp only [zup4_v]
              exact nmAt_c ⟨n1, by simp, by simpa using n2, by simpa using n3⟩ w
            · rw [show j + 2 = j + 1 + 1 by omega]; exact bk
            · rw [gx 3 (by decide) (by decide), e31, show j + 2 = j + 1 + 1 by omega, e30, show j3 - 1 + 2 = j3 + 1 by omega]
              exact u6 Bx By (agB_m ab (by omega) (Int.le_refl _) (by omega) (Int.le_refl _) (Or.inr (Or.inl (by omega)))) (agM_t (agM_m aM5 (by omega) (Int.le_refl _)) (agM_m am (by omega) (Int.le_refl _)))
        · exact Or.inr er
    · simp only [ir0, i00, zb_s]
      rw [L_goodB er.2]
      simp only [zb_s, ir0, if_true]
      rw [if_pos (by decide), L_202 (by omega)]
      refine zP_s ⟨fF_t gF2 g1, fG_t gG2 g2, ?_, fH_t (fH_m g4 (by omega)) hH0, Or.inr ⟨rfl, er⟩⟩
      intro c i k y a b
      rw [g3 c i k y (fun q => a ⟨q.1, q.2.1, q.2.2.1, by have := q.2.2.2; omega⟩) b (fun q => a ⟨q.1, q.2.1, by have := q.2.2.1; omega, by have := q.2.2.2; omega⟩)]
      exact hB2 c i k y a b
  · rw [c1, m1]
    simp only [zb_s, zb_a, ir0, i00]
    rw [hBd er.2]
    simp only [zb_s]
    rw [L_goodB er.2]
    simp only [zb_s, ir0, if_true]
    rw [if_pos (by decide), L_202 (by omega)]
    exact zP_s ⟨fF_e gF, fG_e gG, fB_r, hH0, Or.inr ⟨rfl, er⟩⟩
end
end
section
section
/-! ===== every item, on both sides ===== -/
theorem IPO_r {L : Int} {d : Nat} {N j x r : Int} {F : zF} {B : zB} {Fm : zF} {Bm : zB} {F' : zF} {B' : zB} {Fm' : zF} {Bm' : zB} (h : IPO L d N j x F B Fm Bm r F' B' Fm' Bm') : r = 0 ∨ r = 1 := by
  rcases h.2.2.2.2 with z | z
  · exact Or.inr z.1
  · exact Or.inl z.1
theorem wB_n {v : Int} (h : fiL wB v 0 = -1) : ¬ v = 125780002955636 ∧ ¬ v = 7697253 ∧ ¬ v = 1836021349 ∧ ¬ v = 120299659095922 ∧ ¬ v = 1650549611 ∧ ¬ v = 1936486263 := by
  have m := fiL_n.mp h
  unfold wB at m
  simp only [List.mem_cons, List.not_mem_nil, or_false, not_or] at m
  exact m
theorem L_itemBad {K : zK} {Km : Nat} {N : Int} {om om' : oT_P} (ho : ∀ F B, om.2.2.2 F B = fb_M_itemOfWord om' Km F B) : ItemBad K Km N (fun F B => fb_M_item om Km F B) := by
  intro j F B Fm Bm hE hS hs
  have hg := hS.2.2.2.1
  have hM := PS_MX hE hS
  have jj := hS.2.1.1
  have nn := hE.1.2.1
  have ek := hS.2.1.2.1
  have ev := hS.2.1.2.2.2.1
  have tk := hE.1.2.2 j jj.1 jj.2
  have hkk := hM.2.2.1
  have e16 : (errM Fm Bm (wr Bm j)) 14 0 16 = j := by unfold errM; simp [zup3_v]; exact hM.1
  refine ⟨0, ?_⟩
  show fb_M_item om Km Fm Bm = _
  by_cases k4 : Bm 14 0 7 j = 4
  · have v4 : F 10 0 2 = Bm 14 0 11 j := by rw [ev]; exact (tk.2.2.2.2.2.2.1 k4).1
    have wd : wdAt Bm j (Bm 14 0 11 j) := ⟨k4, rfl⟩
    unfold isrt at hs
    rw [ek, if_pos k4, v4] at hs
    by_cases f : fiL wB (Bm 14 0 11 j) 0 = -1
    · rw [if_pos f] at hs
      have n114 : ¬ Bm 14 0 11 j = 114 := fun z => by rw [if_pos z] at hs; omega
      obtain ⟨n1, n2, n3, n4, n5, n6⟩ := wB_n f
      have t : ∀ c, r64 c → ¬ Bm 14 0 11 j = c → f_M_isWord Km c Fm Bm = some (0, Fm, Bm) := fun c hc n => by rw [L_wd hM wd hc, if_neg n]
      rw [L_itemW hM wd ho]
      unfold fb_M_itemOfWord f_M_itemOfWord_389
      simp only [t 114 (by decide) n114, t 125780002955636 (by decide) n1, t 7697253 (by decide) n2, t 1836021349 (by decide) n3, t 120299659095922 (by decide) n4, t 1650549611 (by decide) n5, t 1936486263 (by decide) n6, zb_s, ir0, if_true, L_wrong hg hM]
      rw [L_202 (by omega), e16]
    · rw [if_neg f] at hs
      have := fiL_b (w := Bm 14 0 11 j) (L := wB)
      omega
  · have k2 : ¬ Bm 14 0 7 j = 2 := by
      intro z
      unfold isrt at hs
      rw [ek, if_neg k4, if_pos z] at hs
      omega
    have t : ∀ c, (c = 60 ∨ c = 124 ∨ c = 33 ∨ c = 91) → f_M_isSign Km c Fm Bm = some (0, Fm, Bm) := by
      intro c hc
      rw [L_isSign hM (by omega)]
      rw [show sgm Bm j c = 0 from sgm_0.mpr (fun z => by
        have v5 : F 10 0 2 = Bm 14 0 9 j := by rw [ev]; exact (tk.2.2.2.2.2.2.2.1 z.1).1
        unfold isrt at hs
        rw [ek, if_neg k4, if_neg k2, if_pos z.1, v5, z.2] at hs
        rcases hc with rfl | rfl | rfl | rfl <;> simp at hs)]
    unfold fb_M_item
    rw [hM.1, if_pos (by omega), if_pos (by omega), if_neg k2]
    simp only [t 60 (by decide), t 124 (by decide), t 33 (by decide), t 91 (by decide), zb_s, ir0, if_true]
    rw [hM.1, if_pos (by omega), if_pos (by omega), if_neg k4, L_wrong hg hM]
    simp only [zb_s]
    rw [L_202 (by omega), e16]
theorem blk_sim {L : Int} {d : Nat} {K : zK} {Km : Nat} {N : Int} {a b : Nat} (hI : ∀ d', d = d' + 1 → ItemSim L K Km N d' (gr_CP K a).2.2.1 (gr_P Km (b + 2)).2.1) : BlkSim L K Km N d (gr_CP K (a + 2)).1 (gr_P Km (b + 3)).1 :=
  P_block (o := gr_CP K (a + 1)) (o' := gr_CP K a) (om := gr_P Km (b + 2)) (fun _ _ _ _ => rfl) hI (L_itemBad (om := gr_P Km (b + 1)) (om' := gr_P Km b) (fun _ _ => rfl))
theorem blk_bad {Km : Nat} {b : Nat} (hK : 3002 ≤ Km) : BlkBad (gr_P Km (b + 1)).1 := L_blockB (om := gr_P Km b) hK
theorem item_step {L : Int} {K : zK} {Km : Nat} {N : Int} (hK : 3002 ≤ Km) {d g g' : Nat} (hg : 5 * d + 5 ≤ g) (hg' : 3 * d + 6 ≤ g') (hI : ∀ d', d = d' + 1 → ∀ {g g' : Nat}, 5 * d' + 5 ≤ g → 3 * d' + 6 ≤ g' → ItemSim L K Km N d' (gr_CP K g).2.2.1 (gr_P Km g').2.1) : ItemSim L K Km N d (gr_CP K g).2.2.1 (gr_P Km g').2.1 := by
  obtain ⟨a, rfl⟩ : ∃ a, g = a + 5 := ⟨g - 5, by omega⟩
  obtain ⟨b, rfl⟩ : ∃ b, g' = b + 6 := ⟨g' - 6, by omega⟩
  have b1 : BlkSim L K Km N d (gr_CP K (a + 4)).1 (gr_P Km (b + 4)).1 := blk_sim (a := a + 2) (b := b + 1) (fun d' h => hI d' h (by omega) (by omega))
  have b2 : BlkSim L K Km N d (gr_CP K (a + 3)).1 (gr_P Km (b + 4)).1 := blk_sim (a := a + 1) (b := b + 1) (fun d' h => hI d' h (by omega) (by omega))
  have b3 : BlkSim L K Km N d (gr_CP K (a + 2)).1 (gr_P Km (b + 4)).1 := blk_sim (a := a) (b := b + 1) (fun d' h => hI d' h (by omega) (by omega))
  have bd : BlkBad (gr_P Km (b + 4)).1 := blk_bad (b := b + 3) hK
  intro x j F B Fm Bm x0 x1 hxi hij hE hS hd hdp hLT hF hn
  have ho : ∀ F B, (gr_P Km (b + 5)).2.2.2 F B = fb_M_itemOfWord (gr_P Km (b + 4)) Km F B := fun _ _ => rfl
  show zP (fb_Parser_takeItem (gr_CP K (a + 4)) K 0 x F B) (fb_M_item (gr_P Km (b + 5)) Km Fm Bm) _
  have hx : 0 ≤ x ∧ x < 3000 := ⟨x0, x1⟩
  have hX := PS_CX hE hS
  have hM := PS_MX hE hS
  have jj := hS.2.1.1
  have nn := hE.1.2.1
  have ek := hS.2.1.2.1
  have ev := hS.2.1.2.2.2.1
  have tk := hE.1.2.2 j jj.1 jj.2
  by_cases k4 : Bm 14 0 7 j = 4
  · have v4 : F 10 0 2 = Bm 14 0 11 j := by rw [ev]; exact (tk.2.2.2.2.2.2.1 k4).1
    rw [ek, v4] at hF hn
    by_cases w1 : Bm 14 0 11 j = 125780002955636
    · rw [k4, w1, show isrt 4 125780002955636 = 4 by decide] at hF
      exact P_repeat hx hxi hij hE hS hd hdp hLT hF ⟨k4, w1⟩ ho (fun _ _ _ _ => rfl) (fun _ _ _ _ => rfl) (o' := gr_CP K (a + 3)) (o'' := gr_CP K (a + 2)) b2 b3 bd
    by_cases w2 : Bm 14 0 11 j = 7697253
    · rw [k4, w2, show isrt 4 7697253 = 5 by decide] at hF
      exact P_use hx hxi hE hS hLT hF ⟨k4, w2⟩ ho
    by_cases w3 : Bm 14 0 11 j = 1836021349
    · rw [k4, w3, show isrt 4 1836021349 = 6 by decide] at hF
      exact P_move hx hxi hij hE hS hd hdp hLT hF ⟨k4, w3⟩ ho (fun _ _ _ _ => rfl) (o' := gr_CP K (a + 3)) b2 bd
    by_cases w4 : Bm 14 0 11 j = 120299659095922
    · rw [k4, w4, show isrt 4 120299659095922 = 7 by decide] at hF
      exact P_mirror hx hxi hij hE hS hd hdp hLT hF ⟨k4, w4⟩ ho (fun _ _ _ _ => rfl) (o' := gr_CP K (a + 3)) b2 bd
    by_cases w5 : Bm 14 0 11 j = 1650549611
    · rw [k4, w5, show isrt 4 1650549611 = 8 by decide] at hF
      exact P_back hx hxi hij hE hS hd hdp hLT hF ⟨k4, w5⟩ ho b1
    by_cases w6 : Bm 14 0 11 j = 1936486263
    · rw [k4, w6, show isrt 4 1936486263 = 9 by decide] at hF
      exact P_slow hx hxi hij hE hS hd hdp hLT hF ⟨k4, w6⟩ ho b1 bd
    have f : fiL wB (Bm 14 0 11 j) 0 = -1 := by
      refine fiL_n.mpr ?_
      unfold wB
      simp only [List.mem_cons, List.not_mem_nil, or_false, not_or]
      exact ⟨w1, w2, w3, w4, w5, w6⟩
    by_cases w7 : Bm 14 0 11 j = 114
    · have wd : wdAt Bm j 114 := ⟨k4, w7⟩
      rw [k4, w7, show isrt 4 114 = 0 by decide] at hF
      have t : ∀ c, r64 c → f_M_isWord Km c Fm Bm = some (if 114 = c then 1 else 0, Fm, Bm) := fun c hc => L_wd hM wd hc
      rw [C_itemE hX hx hF.1, L_itemW hM wd ho]
      unfold fb_M_itemOfWord f_M_itemOfWord_389
      simp only [t 114 (by decide), zb_s, zb_a, ir1, if_true, if_false, Int.reduceEq, hM.1]
      rw [if_pos (show 0 ≤ j ∧ j < 3001 by omega), zb_a]
      simp only [zb_s]
      refine zP_cl (P_evR (o := gr_P Km (b + 5)) (L := L) (d := d) hx (by omega) hE hS hF wd hdp) (fun r F' B' r' Fm' Bm' hh => ?_)
      rw [if_pos (IPO_r hh)]
      exact zP_s hh
    · exfalso
      apply hn
      unfold isrt
      rw [if_pos k4, if_pos f, if_neg w7]
  · by_cases k2 : Bm 14 0 7 j = 2
    · rw [ek, k2, show isrt 2 (F 10 0 2) = 0 by unfold isrt; rw [if_neg (by decide), if_pos rfl]] at hF
      rw [C_itemE hX hx hF.1]
      unfold fb_M_item
      rw [hM.1, if_pos (by omega), if_pos (by omega), if_pos k2]
      refine zP_cl (P_evP (o := gr_P Km (b + 5)) (L := L) (d := d) hx (by omega) hE hS hF k2 hdp) (fun r F' B' r' Fm' Bm' hh => ?_)
      rw [if_pos (IPO_r hh)]
      exact zP_s hh
    · by_cases k5 : Bm 14 0 7 j = 5
      · have v5 : F 10 0 2 = Bm 14 0 9 j := by rw [ev]; exact (tk.2.2.2.2.2.2.2.1 k5).1
        rw [ek, k5, v5] at hF hn
        by_cases c1 : Bm 14 0 9 j = 60
        · have sg : sgAt Bm j 60 := ⟨k5, c1⟩
          rw [c1, show isrt 5 60 = 0 by decide] at hF
          have t : ∀ c, r32 c → f_M_isSign Km c Fm Bm = some (if 60 = c then 1 else 0, Fm, Bm) := fun c hc => L_sg hM sg hc
          rw [C_itemE hX hx hF.1]
          unfold fb_M_item
          rw [hM.1, if_pos (by omega), if_pos (by omega), if_neg k2]
          simp only [t 60 (by decide), zb_s, ir1, if_true, if_false, Int.reduceEq]
          refine zP_cl (P_evC (o := gr_P Km (b + 5)) (L := L) (d := d) hx (by omega) hE hS hF sg hdp) (fun r F' B' r' Fm' Bm' hh => ?_)
          rw [if_pos (IPO_r hh)]
          exact zP_s hh
        by_cases c2 : Bm 14 0 9 j = 124
        · rw [c2, show isrt 5 124 = 1 by decide] at hF
          exact P_bar hx hxi hE hS hF ⟨k5, c2⟩
        by_cases c3 : Bm 14 0 9 j = 33
        · rw [c3, show isrt 5 33 = 2 by decide] at hF
          exact P_loud hx hxi hE hS hF ⟨k5, c3⟩
        by_cases c4 : Bm 14 0 9 j = 91
        · rw [c4, show isrt 5 91 = 3 by decide] at hF
          exact P_tup hx hxi hij hE hS hd hdp hLT hF ⟨k5, c4⟩ (o' := gr_CP K (a + 3)) (o'' := gr_CP K (a + 2)) (om' := gr_P Km (b + 4)) (fun _ _ _ _ => rfl) (fun _ _ _ _ => rfl) (fun _ _ => rfl) (fun d' h => hI d' h (by omega) (by omega)) (L_itemBad (om := gr_P Km (b + 3)) (om' := gr_P Km (b + 2)) (fun _ _ => rfl))
        exfalso
        apply hn
        unfold isrt
        rw [if_neg (by decide), if_neg (by decide), if_pos rfl, if_neg c1, if_neg c2, if_neg c3, if_neg c4]
      · exfalso
        apply hn
        unfold isrt
        rw [ek, if_neg k4, if_neg k2, if_neg k5]
theorem item_sim {L : Int} {K : zK} {Km : Nat} {N : Int} (hK : 3002 ≤ Km) : ∀ {d : Nat} {g g' : Nat}, 5 * d + 5 ≤ g → 3 * d + 6 ≤ g' → ItemSim L K Km N d (gr_CP K g).2.2.1 (gr_P Km g').2.1 := by
  intro d
  induction d with
  | zero =>
    intro g g' hg hg'
    exact item_step hK hg hg' (fun d' h => by omega)
  | succ d ih =>
    intro g g' hg hg'
    exact item_step hK hg hg' (fun d' h => by
      have : d' = d := by omega
      subst this
      intro g g' h1 h2
      exact ih h1 h2)
end
end
section
section
/-! ===== key, time, tempo, on both sides ===== -/
theorem PS_cg {N j : Int} {F F' : zF} {B : zB} {Fm Fm' : zF} {Bm : zB} (h : PS N j F B Fm Bm) (h10 : ∀ k, F' 10 0 k = F 10 0 k) (h3 : ∀ k, k = 11 ∨ k = 15 ∨ k = 18 ∨ k = 20 ∨ k = 21 → F' 3 0 k = F 3 0 k) (hm : ∀ k, k = 16 ∨ k = 17 ∨ k = 19 ∨ k = 20 ∨ k = 21 → Fm' 14 0 k = Fm 14 0 k) : PS N j F' B Fm' Bm := by
  unfold PS CUR at *
  rw [h3 11 (by decide), h3 15 (by decide), h3 18 (by decide), h3 20 (by decide), h3 21 (by decide), hm 16 (by decide), hm 17 (by decide), hm 19 (by decide), hm 20 (by decide), hm 21 (by decide)]
  simp only [h10]
  exact h
theorem ERR_cg {F F' Fm Fm' : zF} (h : ERR F Fm) (h3 : F' 3 0 21 = F 3 0 21) (h17 : Fm' 14 0 17 = Fm 14 0 17) (h18 : Fm' 14 0 18 = Fm 14 0 18) : ERR F' Fm' := by
  unfold ERR bad at *
  rw [h3, h17, h18]; exact h
/-- what the head of a text has told so far -/
noncomputable def HP (K : zK) (p w : Int) (F Fm : zF) : Prop := (0 ≤ p ∧ p < K.2 6) ∧ (0 ≤ w ∧ w < 3) ∧ Fm 14 0 6 = w ∧ (F 6 p 2 = Fm 13 w 2 ∧ -7 ≤ F 6 p 2 ∧ F 6 p 2 ≤ 7) ∧ (F 6 p 3 = Fm 13 w 3 ∧ (F 6 p 3 = 0 ∨ F 6 p 3 = 1)) ∧ (F 6 p 4 = Fm 13 w 4 ∧ 1 ≤ F 6 p 4 ∧ F 6 p 4 ≤ 12) ∧ (F 6 p 5 = Fm 13 w 5 ∧ (F 6 p 5 = 2 ∨ F 6 p 5 = 4 ∨ F 6 p 5 = 8 ∨ F 6 p 5 = 16)) ∧ (F 6 p 6 = Fm 13 w 6 ∧ 20 ≤ F 6 p 6 ∧ F 6 p 6 ≤ 300) ∧ F 3 0 17 = Fm 14 0 22 + 2 * Fm 14 0 23 + 4 * Fm 14 0 24 ∧ (Fm 14 0 22 = 0 ∨ Fm 14 0 22 = 1) ∧ (Fm 14 0 23 = 0 ∨ Fm 14 0 23 = 1) ∧ (Fm 14 0 24 = 0 ∨ Fm 14 0 24 = 1)
noncomputable def hF (p : Int) (F F' : zF) : Prop := ∀ c i k, ¬ (c = 10 ∧ i = 0) → ¬ (c = 3 ∧ i = 0 ∧ k ≠ 11) → ¬ (c = 6 ∧ i = p ∧ 2 ≤ k ∧ k ≤ 6) → F' c i k = F c i k
noncomputable def hG (w : Int) (F F' : zF) : Prop := ∀ c i k, ¬ (c = 14 ∧ i = 0 ∧ 16 ≤ k ∧ k ≤ 27) → ¬ (c = 13 ∧ i = w ∧ 2 ≤ k ∧ k ≤ 6) → F' c i k = F c i k
theorem hF_t {p : Int} {F F' F'' : zF} (h : hF p F F') (h' : hF p F' F'') : hF p F F'' := fun c i k a b d => by rw [h' c i k a b d, h c i k a b d]
theorem hG_t {w : Int} {F F' F'' : zF} (h : hG w F F') (h' : hG w F' F'') : hG w F F'' := fun c i k a b => by rw [h' c i k a b, h c i k a b]
theorem hF_r {p : Int} {F : zF} : hF p F F := fun _ _ _ _ _ _ => rfl
theorem hG_r {w : Int} {F : zF} : hG w F F := fun _ _ _ _ _ => rfl
theorem hF_a {p : Int} {F F' : zF} {B : zB} (h : hF p F F') : hF p F (advF F' B) := fun c i k a b d => by rw [advF_o a]; exact h c i k a b d
theorem hF_u {p v : Int} {F F' : zF} {k : Nat} (h : hF p F F') (hk : k ≠ 11) : hF p F (zup3 F' 3 0 k v) := fun c i x a b d => by
  rw [zup3_v, if_neg (fun z => b ⟨z.1, z.2.1, by rw [z.2.2]; exact hk⟩)]; exact h c i x a b d
theorem hF_6 {p v : Int} {F F' : zF} {k : Nat} (h : hF p F F') (h2 : 2 ≤ k) (h6 : k ≤ 6) : hF p F (zup3 F' 6 p k v) := fun c i x a b d => by
  rw [zup3_v, if_neg (fun z => d ⟨z.1, z.2.1, by rw [z.2.2]; exact h2, by rw [z.2.2]; exact h6⟩)]; exact h c i x a b d
theorem hF_e {p s : Int} {F F' : zF} (h : hF p F F') : hF p F (refF F' s) := hF_u h (by decide)
theorem hF_f {p : Int} {F F' : zF} (h : fF F F') : hF p F F' := fun c i k a b _ => h c i k a (fun z => b ⟨z.1, z.2.1, by have := z.2.2; omega⟩)
theorem hG_u {w v : Int} {F F' : zF} {k : Nat} (h : hG w F F') (h1 : 16 ≤ k) (h2 : k ≤ 27) : hG w F (zup3 F' 14 0 k v) := fun c i x a b => by
  rw [zup3_v, if_neg (fun z => a ⟨z.1, z.2.1, by rw [z.2.2]; exact h1, by rw [z.2.2]; exact h2⟩)]; exact h c i x a b
theorem hG_3 {w v : Int} {F F' : zF} {k : Nat} (h : hG w F F') (h1 : 2 ≤ k) (h2 : k ≤ 6) : hG w F (zup3 F' 13 w k v) := fun c i x a b => by
  rw [zup3_v, if_neg (fun z => b ⟨z.1, z.2.1, by rw [z.2.2]; exact h1, by rw [z.2.2]; exact h2⟩)]; exact h c i x a b
theorem hG_e {w s : Int} {F F' : zF} {B : zB} (h : hG w F F') : hG w F (errM F' B s) := hG_u (hG_u h (by decide) (by decide)) (by decide) (by decide)
theorem hG_f {w : Int} {F F' : zF} (h : fG F F') : hG w F F' := fun c i k a _ => h c i k (fun z => a ⟨z.1, z.2.1, z.2.2.1, by have := z.2.2.2; omega⟩)
/-- a head is taken, or refused, alike -/
noncomputable def HPO (K : zK) (N j p w dl : Int) (F : zF) (B : zB) (Fm : zF) (Bm : zB) (r : Int) (F' : zF) (B' : zB) (Fm' : zF) (Bm' : zB) : Prop := B' = B ∧ Bm' = Bm ∧ hF p F F' ∧ hG w Fm Fm' ∧ (r = 1 ∧ (∃ j', j < j' ∧ PS N j' F' B' Fm' Bm' ∧ HP K p w F' Fm' ∧ F' 3 0 14 = F 3 0 14 ∧ F' 3 0 16 = F 3 0 16 ∧ Fm' 14 0 27 = Fm 14 0 27 ∧ F' 3 0 18 = F 3 0 18 ∧ F' 3 0 15 = F 3 0 15 ∧ Fm' 14 0 22 + Fm' 14 0 23 + Fm' 14 0 24 = Fm 14 0 22 + Fm 14 0 23 + Fm 14 0 24 + dl) ∨ r = 0 ∧ ERR F' Fm')
theorem zor8 : ∀ a b c : Fin 2, (a.val = 0 → zor ((a.val : Int) + 2 * (b.val : Int) + 4 * (c.val : Int)) 1 = 1 + 2 * (b.val : Int) + 4 * (c.val : Int)) ∧ (b.val = 0 → zor ((a.val : Int) + 2 * (b.val : Int) + 4 * (c.val : Int)) 2 = (a.val : Int) + 2 + 4 * (c.val : Int)) ∧ (c.val = 0 → zor ((a.val : Int) + 2 * (b.val : Int) + 4 * (c.val : Int)) 4 = (a.val : Int) + 2 * (b.val : Int) + 4) ∧ (zand ((a.val : Int) + 2 * (b.val : Int) + 4 * (c.val : Int)) 1 = (a.val : Int)) ∧ (zand ((a.val : Int) + 2 * (b.val : Int) + 4 * (c.val : Int)) 2 = 2 * (b.val : Int)) ∧ (zand ((a.val : Int) + 2 * (b.val : Int) + 4 * (c.val : Int)) 4 = 4 * (c.val : Int)) := by decide +kernel
theorem zor8i {a b c : Int} (ha : a = 0 ∨ a = 1) (hb : b = 0 ∨ b = 1) (hc : c = 0 ∨ c = 1) : (a = 0 → zor (a + 2 * b + 4 * c) 1 = 1 + 2 * b + 4 * c) ∧ (b = 0 → zor (a + 2 * b + 4 * c) 2 = a + 2 + 4 * c) ∧ (c = 0 → zor (a + 2 * b + 4 * c) 4 = a + 2 * b + 4) ∧ zand (a + 2 * b + 4 * c) 1 = a ∧ zand (a + 2 * b + 4 * c) 2 = 2 * b ∧ zand (a + 2 * b + 4 * c) 4 = 4 * c := by
  have h := zor8 ⟨a.toNat, by omega⟩ ⟨b.toNat, by omega⟩ ⟨c.toNat, by omega⟩
  have e : ∀ z : Int, (z = 0 ∨ z = 1) → ((z.toNat : Nat) : Int) = z := fun z hz => by omega
  simp only [e a ha, e b hb, e c hc] at h
  refine ⟨fun z => h.1 (by omega), fun z => h.2.1 (by omega), fun z => h.2.2.1 (by omega), h.2.2.2⟩
/-- which head a word begins: 1 key, 2 time, 4 tempo -/
noncomputable def hds (k v : Int) : Int := if k = 4 then (if v = 7038329 then 1 else if v = 1953066341 then 2 else if v = 499917877359 then 4 else 0) else 0
theorem C_headSort {K : zK} {F : zF} {B : zB} (h : CX K F B) : f_Parser_headSort K 0 F B = some (hds (F 10 0 0) (F 10 0 2), F, B) := by
  have w1 := C_isWord (c := 7038329) h (by decide)
  have w2 := C_isWord (c := 1953066341) h (by decide)
  have w3 := C_isWord (c := 499917877359) h (by decide)
  have r1 := wdn_r F 7038329
  have r2 := wdn_r F 1953066341
  have r3 := wdn_r F 499917877359
  obtain ⟨k3, k10, e11, hk, hv, hx, h5, hK⟩ := h
  unfold f_Parser_headSort f_Parser_headSort_48 hds
  rw [if_pos ⟨by omega, k3⟩, e11, if_pos ⟨by omega, k10⟩, w1]
  simp only [zb_s]
  rw [if_pos (by omega)]
  by_cases a : F 10 0 0 = 4
  · rw [if_pos a]
    by_cases v1 : F 10 0 2 = 7038329
    · rw [if_neg (by rw [wdn_0]; exact fun z => z ⟨a, v1⟩), if_pos v1]
    · rw [if_pos (wdn_0.mpr (fun z => v1 z.2)), if_neg v1, e11, if_pos ⟨by omega, k10⟩, w2]
      simp only [zb_s]
      rw [if_pos (by omega)]
      by_cases v2 : F 10 0 2 = 1953066341
      · rw [if_neg (by rw [wdn_0]; exact fun z => z ⟨a, v2⟩), if_pos v2]
      · rw [if_pos (wdn_0.mpr (fun z => v2 z.2)), if_neg v2, e11, if_pos ⟨by omega, k10⟩, w3]
        simp only [zb_s]
        rw [if_pos (by omega)]
        by_cases v3 : F 10 0 2 = 499917877359
        · rw [if_neg (by rw [wdn_0]; exact fun z => z ⟨a, v3⟩), if_pos v3]
        · rw [if_pos (wdn_0.mpr (fun z => v3 z.2)), if_neg v3]
  · have n : ∀ c, wdn F c = 0 := fun c => wdn_0.mpr (fun z => a z.1)
    rw [if_neg a, if_pos (n _), e11, if_pos ⟨by omega, k10⟩, w2]
    simp only [zb_s]
    rw [if_pos (by omega), if_pos (n _), e11, if_pos ⟨by omega, k10⟩, w3]
    simp only [zb_s]
    rw [if_pos (by omega), if_pos (n _)]
theorem P_tempo {K : zK} {Km : Nat} {N j p w : Int} {F : zF} {B : zB} {Fm : zF} {Bm : zB} (hE : EV K Km N B Bm) (hS : PS N j F B Fm Bm) (hP : HP K p w F Fm) (wd : wdAt Bm j 499917877359) (h24 : Fm 14 0 24 = 0) : zP (f_Parser_takeHead K 0 p F B) (f_M_head Km Fm Bm) (fun r F' B' _ Fm' Bm' => HPO K N j p w 1 F B Fm Bm r F' B' Fm' Bm') := by
  have hX := PS_CX hE hS
  have hM := PS_MX hE hS
  have k3 := hE.2.2.2.1
  have k10 := hE.2.2.2.2.1
  have h4 := wd.1
  have ek := hS.2.1.2.1
  have tk := hE.1.2.2 j hS.2.1.1.1 hS.2.1.1.2
  have ev : F 10 0 2 = 499917877359 := by rw [hS.2.1.2.2.2.1, (tk.2.2.2.2.2.2.1 h4).1]; exact wd.2
  have hs : hds (F 10 0 0) (F 10 0 2) = 4 := by rw [ek, h4, ev]; decide
  have t : ∀ c, r64 c → f_M_isWord Km c Fm Bm = some (if 499917877359 = c then 1 else 0, Fm, Bm) := fun c hc => L_wd hM wd hc
  obtain ⟨p0, w0, h6, q2, q3, q4, q5, q6, q17, q22, q23, q24⟩ := hP
  have z8 := (zor8i q22 q23 q24).2.2.1 h24
  rw [← q17] at z8
  have hSu : PS N j (zup3 F 3 0 17 (zor (F 3 0 17) 4)) B (zup3 Fm 14 0 24 1) Bm := PS_cg (PS_u (k := 17) (v := zor (F 3 0 17) 4) hS (by decide)) (fun _ => rfl) (fun _ _ => rfl) (fun k hk => by rw [zup3_v, if_neg (fun z => by have := z.2.2; omega)])
  have hS1 := PS_step hE hSu (by omega)
  unfold f_Parser_takeHead f_M_head f_M_head_113 f_M_head_152
  rw [if_pos ⟨by omega, k3⟩, C_headSort hX, hs]
  simp only [t 7038329 (by decide), t 1953066341 (by decide), t 499917877359 (by decide), zb_s, ir0, ir1, if_true, if_false, Int.reduceEq, h24, h6, hM.1]
  rw [hX.2.2.1, if_pos ⟨by omega, k10⟩, C_adv (CX_u hX (by decide)), if_pos w0]
  simp only [zb_s, if_false, Int.reduceEq]
  rw [if_pos (show r32 4 by decide)]
  rcases P_num hE hS1 (lo := 20) (hi := 300) (by decide) (by decide) with ⟨n1, n2, n3, c1, m1, hS2⟩ | ⟨s, s', v, c1, m1, er⟩
  · rw [c1, m1]
    simp only [zb_s, ir1, i10]
    rw [if_pos p0]
    have e19 : (advF (zup3 (advF (zup3 F 3 0 17 (zor (F 3 0 17) 4)) B) 3 0 19 (Bm 14 0 9 (j + 1))) B) 3 0 19 = Bm 14 0 9 (j + 1) := by rw [advF_o (by decide)]; simp [zup3_v]
    rw [e19]
    refine zP_s ⟨rfl, rfl, hF_6 (hF_a (hF_u (hF_a (hF_u hF_r (by decide))) (by decide))) (by decide) (by decide), hG_3 (hG_u (hG_u (hG_u hG_r (by decide) (by decide)) (by decide) (by decide)) (by decide) (by decide)) (by decide) (by decide), Or.inl ⟨rfl, j + 1 + 1, by omega, ?_, ?_, ?_, ?_, ?_, ?_, ?_, ?_⟩⟩
    · exact PS_cg hS2 (fun k => by simp [zup3_v]) (fun k _ => by simp [zup3_v]) (fun k _ => by simp [zup3_v])
    · refine ⟨p0, w0, ?_, ?_, ?_, ?_, ?_, ?_, ?_, ?_, ?_, ?_⟩ <;> simp [zup3_v, advF_o] <;> first | assumption | omega
    · simp [zup3_v, advF_o]
    · simp [zup3_v, advF_o]
    · simp [zup3_v, advF_o]
    · simp [zup3_v, advF_o]
    · simp [zup3_v, advF_o]
    · simp [zup3_v, advF_o] <;> omega
  · rw [c1, m1]
    simp only [zb_s, ir0, i00]
    refine zP_s ⟨rfl, rfl, hF_e (hF_a (hF_u hF_r (by decide))), hG_3 (hG_e (hG_u (hG_u hG_r (by decide) (by decide)) (by decide) (by decide))) (by decide) (by decide), Or.inr ⟨rfl, ERR_cg er rfl (by simp [zup3_v]) (by simp [zup3_v])⟩⟩
end
end
section
section
/-! ===== time and key, on both sides ===== -/
theorem P_nump {K : zK} {Km : Nat} {N j lo hi : Int} {F : zF} {B : zB} {Fm : zF} {Bm : zB} (hE : EV K Km N B Bm) (hS : PS N j F B Fm Bm) (hl : r32 lo) (hh : r32 hi) (h1 : 1 ≤ lo) (h2 : hi ≤ 32) : (Bm 14 0 7 j = 3 ∧ lo ≤ Bm 14 0 9 j ∧ Bm 14 0 9 j ≤ hi ∧ pw2 (Bm 14 0 9 j) ∧ f_Parser_takeNumber K 0 lo hi 1 F B = some (1, advF (zup3 F 3 0 19 (Bm 14 0 9 j)) B, B) ∧ f_M_number Km lo hi 1 Fm Bm = some (Bm 14 0 9 j, zup3 Fm 14 0 16 (j + 1), Bm) ∧ PS N (j + 1) (advF (zup3 F 3 0 19 (Bm 14 0 9 j)) B) B (zup3 Fm 14 0 16 (j + 1)) Bm) ∨ (∃ s s' v, f_Parser_takeNumber K 0 lo hi 1 F B = some (0, refF F s, B) ∧ f_M_number Km lo hi 1 Fm Bm = some (v, errM Fm Bm s', Bm) ∧ ERR (refF F s) (errM Fm Bm s')) := by
  have hg := hS.2.2.2.1
  have cn := C_takeNumber (lo := lo) (hi := hi) (pw := 1) (PS_CX hE hS) hl hh (Or.inr ⟨rfl, h1, h2⟩)
  have mn := L_number (K := Km) (lo := lo) (hi := hi) (pw := 1) hg (PS_MX hE hS) hl hh (Or.inr ⟨rfl, h1, h2⟩)
  by_cases k : Bm 14 0 7 j = 3
  · obtain ⟨e0, e2⟩ := nm_of hE hS k
    by_cases n : nOK (Bm 14 0 9 j) lo hi 1
    · left
      have c := cn.1 e0 (by rw [e2]; exact n)
      rw [e2] at c
      exact ⟨k, n.1, n.2.1, n.2.2.resolve_left (by decide), c, mn.1 k n, PS_step hE (PS_u (k := 19) hS (by decide)) (by omega)⟩
    · right
      exact ⟨5, 5, _, cn.2.1 e0 (by rw [e2]; exact n), mn.2.1 k n, PS_err hE hS (by rw [if_neg (by omega)]) (by decide)⟩
  · right
    have e0 := hS.2.1.2.1
    exact ⟨2, wr Bm j, 0, cn.2.2 (by rw [e0]; exact k), mn.2.2 k, PS_err2 hE hS⟩
theorem bad_cg {F F' : zF} (h : bad F) (e : F' 14 0 17 = F 14 0 17) : bad F' := by
  unfold bad at *
  rw [e]; exact h
theorem P_time {K : zK} {Km : Nat} {N j p w : Int} {F : zF} {B : zB} {Fm : zF} {Bm : zB} (hE : EV K Km N B Bm) (hS : PS N j F B Fm Bm) (hP : HP K p w F Fm) (wd : wdAt Bm j 1953066341) (h23 : Fm 14 0 23 = 0) : zP (f_Parser_takeHead K 0 p F B) (f_M_head Km Fm Bm) (fun r F' B' _ Fm' Bm' => HPO K N j p w 1 F B Fm Bm r F' B' Fm' Bm') := by
  have hX := PS_CX hE hS
  have hM := PS_MX hE hS
  have k3 := hE.2.2.2.1
  have k10 := hE.2.2.2.2.1
  have h4 := wd.1
  have ek := hS.2.1.2.1
  have tk := hE.1.2.2 j hS.2.1.1.1 hS.2.1.1.2
  have ev : F 10 0 2 = 1953066341 := by rw [hS.2.1.2.2.2.1, (tk.2.2.2.2.2.2.1 h4).1]; exact wd.2
  have hs : hds (F 10 0 0) (F 10 0 2) = 2 := by rw [ek, h4, ev]; decide
  have t : ∀ c, r64 c → f_M_isWord Km c Fm Bm = some (if 1953066341 = c then 1 else 0, Fm, Bm) := fun c hc => L_wd hM wd hc
  obtain ⟨p0, w0, h6, q2, q3, q4, q5, q6, q17, q22, q23, q24⟩ := hP
  have z8 := (zor8i q22 q23 q24).2.1 h23
  rw [← q17] at z8
  have hSu : PS N j (zup3 F 3 0 17 (zor (F 3 0 17) 2)) B (zup3 Fm 14 0 23 1) Bm := PS_cg (PS_u (k := 17) (v := zor (F 3 0 17) 2) hS (by decide)) (fun _ => rfl) (fun _ _ => rfl) (fun k hk => by rw [zup3_v, if_neg (fun z => by have := z.2.2; omega)])
  have hS1 := PS_step hE hSu (by omega)
  unfold f_Parser_takeHead f_M_head f_M_head_38 f_M_head_152 f_Parser_takeTime f_Parser_takeTime_41
  rw [if_pos ⟨by omega, k3⟩, C_headSort hX, hs]
  simp only [t 7038329 (by decide), t 1953066341 (by decide), zb_s, ir0, ir1, if_true, if_false, Int.reduceEq, h23, h6, hM.1]
  rw [hX.2.2.1, if_pos ⟨by omega, k10⟩, C_adv (CX_u hX (by decide)), if_pos w0]
  simp only [zb_s, if_true, if_false, Int.reduceEq]
  rw [if_pos (show r32 2 by decide), if_pos ⟨Int.le_refl _, k3⟩]
  rcases P_num hE hS1 (lo := 1) (hi := 12) (by decide) (by decide) with ⟨n1, n2, n3, c1, m1, hS2⟩ | ⟨s, s', v, c1, m1, er⟩
  · rw [c1, m1]
    simp only [zb_s, ir1, i10]
    rw [if_pos p0]
    have e19 : (advF (zup3 (advF (zup3 F 3 0 17 (zor (F 3 0 17) 2)) B) 3 0 19 (Bm 14 0 9 (j + 1))) B) 3 0 19 = Bm 14 0 9 (j + 1) := by rw [advF_o (by decide)]; simp [zup3_v]
    rw [e19]
    have hS2' : PS N (j + 1 + 1) (zup3 (advF (zup3 (advF (zup3 F 3 0 17 (zor (F 3 0 17) 2)) B) 3 0 19 (Bm 14 0 9 (j + 1))) B) 6 p 4 (Bm 14 0 9 (j + 1))) B (zup3 (zup3 (zup3 (zup3 Fm 14 0 23 1) 14 0 16 (j + 1)) 14 0 16 (j + 1 + 1)) 13 w 4 (Bm 14 0 9 (j + 1))) Bm := PS_cg hS2 (fun k => by simp [zup3_v]) (fun k _ => by simp [zup3_v]) (fun k _ => by simp [zup3_v])
    have gF2 : hF p F (zup3 (advF (zup3 (advF (zup3 F 3 0 17 (zor (F 3 0 17) 2)) B) 3 0 19 (Bm 14 0 9 (j + 1))) B) 6 p 4 (Bm 14 0 9 (j + 1))) := hF_6 (hF_a (hF_u (hF_a (hF_u hF_r (by decide))) (by decide))) (by decide) (by decide)
    have gG2 : hG w Fm (zup3 (zup3 (zup3 (zup3 Fm 14 0 23 1) 14 0 16 (j + 1)) 14 0 16 (j + 1 + 1)) 13 w 4 (Bm 14 0 9 (j + 1))) := hG_3 (hG_u (hG_u (hG_u hG_r (by decide) (by decide)) (by decide) (by decide)) (by decide) (by decide)) (by decide) (by decide)
    rcases P_sig hE hS2' (c := 47) (by decide) with ⟨_, c2, m2, hS3⟩ | ⟨c2, m2, er⟩
    · rw [c2, m2]
      simp only [zb_s, ir1, i10]
      have e6 : (zup3 (zup3 (zup3 (zup3 (zup3 Fm 14 0 23 1) 14 0 16 (j + 1)) 14 0 16 (j + 1 + 1)) 13 w 4 (Bm 14 0 9 (j + 1))) 14 0 16 (j + 1 + 1 + 1)) 14 0 6 = w := by simp [zup3_v]; exact h6
      rw [e6, if_pos w0]
      rcases P_nump hE hS3 (lo := 2) (hi := 16) (by decide) (by decide) (by decide) (by decide) with ⟨u1, u2, u3, u4, c3, m3, hS4⟩ | ⟨s, s', v, c3, m3, er⟩
      · rw [c3, m3]
        simp only [zb_s, ir1, i10]
        have e19' : (advF (zup3 (advF (zup3 (advF (zup3 (advF (zup3 F 3 0 17 (zor (F 3 0 17) 2)) B) 3 0 19 (Bm 14 0 9 (j + 1))) B) 6 p 4 (Bm 14 0 9 (j + 1))) B) 3 0 19 (Bm 14 0 9 (j + 1 + 1 + 1))) B) 3 0 19 = Bm 14 0 9 (j + 1 + 1 + 1) := by rw [advF_o (by decide)]; simp [zup3_v]
        rw [e19']
        unfold pw2 at u4
        refine zP_s ⟨rfl, rfl, hF_6 (hF_a (hF_u (hF_a gF2) (by decide))) (by decide) (by decide), hG_3 (hG_u (hG_u gG2 (by decide) (by decide)) (by decide) (by decide)) (by decide) (by decide), Or.inl ⟨rfl, j + 1 + 1 + 1 + 1, by omega, ?_, ?_, ?_, ?_, ?_, ?_, ?_, ?_⟩⟩
        · exact PS_cg hS4 (fun k => by simp [zup3_v]) (fun k _ => by simp [zup3_v]) (fun k _ => by simp [zup3_v])
        · refine ⟨p0, w0, ?_, ?_, ?_, ?_, ?_, ?_, ?_, ?_, ?_, ?_⟩ <;> simp [zup3_v, advF_o] <;> first | assumption | omega
        · simp [zup3_v, advF_o]
        · simp [zup3_v, advF_o]
        · simp [zup3_v, advF_o]
        · simp [zup3_v, advF_o]
        · simp [zup3_v, advF_o]
        · simp [zup3_v, advF_o] <;> omega
      · rw [c3, m3]
        simp only [zb_s, ir0, i00]
        refine zP_s ⟨rfl, rfl, hF_e (hF_a gF2), hG_3 (hG_e (hG_u gG2 (by decide) (by decide))) (by decide) (by decide), Or.inr ⟨rfl, ERR_cg er rfl (by simp [zup3_v]) (by simp [zup3_v])⟩⟩
    · rw [c2, m2]
      simp only [zb_s, ir0, i00]
      have e6 : (errM (zup3 (zup3 (zup3 (zup3 Fm 14 0 23 1) 14 0 16 (j + 1)) 14 0 16 (j + 1 + 1)) 13 w 4 (Bm 14 0 9 (j + 1))) Bm (wr Bm (j + 1 + 1))) 14 0 6 = w := by unfold errM; simp [zup3_v]; exact h6
      rw [e6, if_pos w0, L_numberB er.2]
      simp only [zb_s]
      refine zP_s ⟨rfl, rfl, hF_e gF2, hG_3 (hG_e gG2) (by decide) (by decide), Or.inr ⟨rfl, ERR_cg er rfl (by simp [zup3_v]) (by simp [zup3_v])⟩⟩
  · rw [c1, m1]
    simp only [zb_s, ir0, i00]
    have er2 : bad (zup3 (errM (zup3 (zup3 Fm 14 0 23 1) 14 0 16 (j + 1)) Bm s') 13 w 4 v) := bad_cg er.2 (by simp [zup3_v])
    rw [L_needB er2]
    simp only [zb_s]
    have e6 : (zup3 (errM (zup3 (zup3 Fm 14 0 23 1) 14 0 16 (j + 1)) Bm s') 13 w 4 v) 14 0 6 = w := by unfold errM; simp [zup3_v]; exact h6
    rw [e6, if_pos w0, L_numberB er2]
    simp only [zb_s]
    rw [if_pos (by decide)]
    refine zP_s ⟨rfl, rfl, hF_e (hF_a (hF_u hF_r (by decide))), hG_3 (hG_3 (hG_e (hG_u (hG_u hG_r (by decide) (by decide)) (by decide) (by decide))) (by decide) (by decide)) (by decide) (by decide), Or.inr ⟨rfl, ERR_cg er rfl (by simp [zup3_v]) (by simp [zup3_v])⟩⟩
end
end
