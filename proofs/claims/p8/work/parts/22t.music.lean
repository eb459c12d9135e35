section
/-! ===== items one behind the other, on both sides ===== -/
/-- the lets told so far -/
def LT (L : Int) (F : zF) (B : zB) (Fm : zF) (Bm : zB) : Prop := F 3 0 16 = L ∧ Fm 14 0 27 = L ∧ (0 ≤ L ∧ L ≤ 6) ∧ ∀ q, 0 ≤ q → q < L → B 3 0 12 q = Bm 14 0 25 q ∧ r64 (B 3 0 12 q) ∧ 0 ≤ B 3 0 13 q ∧ B 3 0 13 q < 3000
/-- the class's rows change at items from lo on, at pitches from pl on, and at one cell more -/
def fK (k0 : Nat) (x0 lo pl : Int) (B B' : zB) : Prop := ∀ c i k y, ¬ (c = 3 ∧ i = 0 ∧ k ≤ 7 ∧ lo ≤ y) → ¬ (c = 3 ∧ i = 0 ∧ 8 ≤ k ∧ k ≤ 10 ∧ pl ≤ y) → ¬ (c = 3 ∧ i = 0 ∧ k = k0 ∧ y = x0) → B' c i k y = B c i k y
def fJ (fr j : Int) (B B' : zB) : Prop := ∀ c i k x, ¬ (c = 14 ∧ i = 0 ∧ 30 ≤ k ∧ k ≤ 34 ∧ j ≤ x) → ¬ (c = 14 ∧ i = 0 ∧ k = 30 ∧ x = fr) → B' c i k x = B c i k x
theorem fK_t {k0 : Nat} {x0 lo pl : Int} {B B' B'' : zB} (h : fK k0 x0 lo pl B B') (h' : fK k0 x0 lo pl B' B'') : fK k0 x0 lo pl B B'' := fun c i k y a b d => by rw [h' c i k y a b d, h c i k y a b d]
theorem fK_r {k0 : Nat} {x0 lo pl : Int} {B : zB} : fK k0 x0 lo pl B B := fun _ _ _ _ _ _ _ => rfl
theorem fK_B {k0 : Nat} {x0 lo pl lo' pl' : Int} {B B' : zB} (h : fB lo' pl' B B') (h1 : lo ≤ lo') (h2 : pl ≤ pl') : fK k0 x0 lo pl B B' := fun c i k y a b _ => h c i k y (fun z => a ⟨z.1, z.2.1, z.2.2.1, (by first | decide | omega)⟩) (fun z => b ⟨z.1, z.2.1, z.2.2.1, z.2.2.2.1, (by first | decide | omega)⟩)
theorem fK_K {k0 k1 : Nat} {x0 x1 lo pl lo' pl' : Int} {B B' : zB} (h : fK k1 x1 lo' pl' B B') (h1 : lo ≤ lo') (h2 : pl ≤ pl') (h3 : k1 = k0 ∧ x1 = x0 ∨ k1 ≤ 7 ∧ lo ≤ x1) : fK k0 x0 lo pl B B' := fun c i k y a b d => h c i k y (fun z => a ⟨z.1, z.2.1, z.2.2.1, (by first | decide | omega)⟩) (fun z => b ⟨z.1, z.2.1, z.2.2.1, z.2.2.2.1, (by first | decide | omega)⟩) (fun z => by
  rcases h3 with q | q
  · exact d ⟨z.1, z.2.1, z.2.2.1.trans q.1, z.2.2.2.trans q.2⟩
  · exact a ⟨z.1, z.2.1, by rw [z.2.2.1]; exact q.1, by rw [z.2.2.2]; exact q.2⟩)
theorem fK_c {k0 : Nat} {x0 lo pl v : Int} {B B' : zB} (h : fK k0 x0 lo pl B B') : fK k0 x0 lo pl B (zup4 B' 3 0 k0 x0 v) := fun c i k y a b d => by
  rw [zup4_v, if_neg d]; exact h c i k y a b d
theorem fK_u {k0 k : Nat} {x0 lo pl x v : Int} {B B' : zB} (h : fK k0 x0 lo pl B B') (hk : k ≤ 7) (hx : lo ≤ x) : fK k0 x0 lo pl B (zup4 B' 3 0 k x v) := fun c i q y a b d => by
  rw [zup4_v, if_neg]
  · exact h c i q y a b d
  · rintro ⟨rfl, rfl, rfl, rfl⟩
    exact a ⟨rfl, rfl, hk, hx⟩
theorem fK_10 {k0 : Nat} {x0 lo pl : Int} {B B' : zB} (h : fK k0 x0 lo pl B B') (k : Nat) : B' 10 0 k = B 10 0 k := by
  funext x; exact h 10 0 k x (fun z => absurd z.1 (by decide)) (fun z => absurd z.1 (by decide)) (fun z => absurd z.1 (by decide))
theorem fJ_t {fr j : Int} {B B' B'' : zB} (h : fJ fr j B B') (h' : fJ fr j B' B'') : fJ fr j B B'' := fun c i k x a b => by rw [h' c i k x a b, h c i k x a b]
theorem fJ_H {fr j j' : Int} {B B' : zB} (h : fH j' B B') (h1 : j ≤ j') : fJ fr j B B' := fun c i k x a _ => h c i k x (fun z => a ⟨z.1, z.2.1, z.2.2.1, z.2.2.2.1, (by first | decide | omega)⟩)
theorem fJ_m {fr j j' : Int} {B B' : zB} (h : fJ fr j' B B') (h1 : j ≤ j') : fJ fr j B B' := fun c i k x a b => h c i k x (fun z => a ⟨z.1, z.2.1, z.2.2.1, z.2.2.2.1, (by first | decide | omega)⟩) b
theorem fJ_k {fr j : Int} {B B' : zB} (h : fJ fr j B B') (k : Nat) (hk : k ≤ 29) : B' 14 0 k = B 14 0 k := by
  funext x; exact h 14 0 k x (fun z => by have := z.2.2.1; omega) (fun z => by have := z.2.2.1; omega)
theorem fJ_fH {fr j : Int} {B B' : zB} (h : fJ fr j B B') (h1 : fr ≤ j) : fH fr B B' := fun c i k x a => h c i k x (fun z => a ⟨z.1, z.2.1, z.2.2.1, z.2.2.2.1, (by first | decide | omega)⟩) (fun z => a ⟨z.1, z.2.1, (by first | decide | omega), (by first | decide | omega), (by first | decide | omega)⟩)
theorem EV_k {K : zK} {Km : Nat} {N x0 lo pl fr j : Int} {k0 : Nat} {B B' Bm Bm' : zB} (h : EV K Km N B Bm) (hB : fK k0 x0 lo pl B B') (hm : fJ fr j Bm Bm') : EV K Km N B' Bm' := EV_B h (fK_10 hB) (fun k hk => fJ_k hm k (by first | decide | omega))
theorem PS_k {N j0 x0 lo pl fr j : Int} {k0 : Nat} {F : zF} {B B' : zB} {Fm : zF} {Bm Bm' : zB} (h : PS N j0 F B Fm Bm) (hB : fK k0 x0 lo pl B B') (hm : fJ fr j Bm Bm') : PS N j0 F B' Fm Bm' := PS_B h (fK_10 hB) (fun k hk => fJ_k hm k (by first | decide | omega))
theorem LT_k {L x0 lo pl fr j : Int} {k0 : Nat} {F F' : zF} {B B' : zB} {Fm Fm' : zF} {Bm Bm' : zB} (h : LT L F B Fm Bm) (hF : fF F F') (hG : fG Fm Fm') (hB : fK k0 x0 lo pl B B') (hk : k0 ≤ 7) (hm : fJ fr j Bm Bm') : LT L F' B' Fm' Bm' := by
  obtain ⟨a, b, c, e⟩ := h
  refine ⟨?_, ?_, c, fun q q0 q1 => ?_⟩
  · rw [hF 3 0 16 (by decide) (by decide)]; exact a
  · rw [hG 14 0 27 (by decide)]; exact b
  · have r : ∀ k, 11 ≤ k → B' 3 0 k q = B 3 0 k q := fun k h11 => hB 3 0 k q (fun z => by have := z.2.2.1; omega) (fun z => by have := z.2.2.2.1; omega) (fun z => by have := z.2.2.1; omega)
    rw [r 12 (by decide), r 13 (by decide), fJ_k hm 25 (by decide)]
    exact e q q0 q1
theorem fB_K {lo pl : Int} {B B' : zB} (h : fB lo pl B B') : fK 0 (lo) lo pl B B' := fK_B h (Int.le_refl _) (Int.le_refl _)
theorem newB_k {k0 : Nat} {x0 lo pl x s p : Int} {B B' : zB} (h : fK k0 x0 lo pl B B') (hx : lo ≤ x) : fK k0 x0 lo pl B (newB B' x s p) := fK_u (fK_u (fK_u (fK_u (fK_u (fK_u (fK_u (fK_u h (by decide) hx) (by decide) hx) (by decide) hx) (by decide) hx) (by decide) hx) (by decide) hx) (by decide) hx) (by decide) hx
/-- an item of level d is taken alike -/
def ItemSim (L : Int) (K : zK) (Km : Nat) (N : Int) (d : Nat) (oC : Int → Int → zF → zB → zO) (oM : zF → zB → zO) : Prop := ∀ {x j : Int} {F : zF} {B : zB} {Fm : zF} {Bm : zB}, 0 ≤ x → x < 3000 → x + 1 = F 3 0 14 → F 3 0 14 ≤ j + 1 → EV K Km N B Bm → PS N j F B Fm Bm → F 3 0 18 + d = 8 → 1 ≤ F 3 0 18 → LT L F B Fm Bm → fresh B Bm x j (isrt (F 10 0 0) (F 10 0 2)) → ¬ isrt (F 10 0 0) (F 10 0 2) = -1 → zP (oC 0 x F B) (oM Fm Bm) (fun r F' B' _ Fm' Bm' => IPO L d N j x F B Fm Bm r F' B' Fm' Bm')
/-- where no item begins the reference tells it -/
def ItemBad (K : zK) (Km : Nat) (N : Int) (oM : zF → zB → zO) : Prop := ∀ {j : Int} {F : zF} {B : zB} {Fm : zF} {Bm : zB}, EV K Km N B Bm → PS N j F B Fm Bm → isrt (F 10 0 0) (F 10 0 2) = -1 → ∃ r, oM Fm Bm = some (r, errM Fm Bm (wr Bm j), zup4 Bm 14 0 31 j j)
/-- items are taken up to the closing sign, and the sign too -/
def OKM (L : Int) (d : Nat) (N j fr x0 : Int) (k0 : Nat) (F : zF) (F' : zF) (B' : zB) (Fm' : zF) (Bm' : zB) : Prop := ∃ j' n, j < j' ∧ PS N j' F' B' Fm' Bm' ∧ Bm' 14 0 30 fr = j' - 1 ∧ F' 3 0 18 = F 3 0 18 - 1 ∧ (F 3 0 14 ≤ F' 3 0 14 ∧ F' 3 0 14 - F 3 0 14 ≤ j' - 1 - j) ∧ F 3 0 15 ≤ F' 3 0 15 ∧ SLR L d n (B' 3 0 k0 x0) j (j' - 1) (F 3 0 14) (F' 3 0 14) (F 3 0 15) (F' 3 0 15) B' Bm'
theorem refF_18 {F : zF} {s v : Int} (Fm : zF) : ERR (refF F s) Fm → ERR (refF (zup3 F 3 0 18 v) s) Fm := by
  unfold ERR refF
  simp only [zup3_v]
  simp
theorem isrt_c {k v c : Int} (hc : c = 125 ∨ c = 93) (h5 : k = 5) (hv : v = c) : isrt k v = -1 := by
  unfold isrt
  subst h5
  rcases hc with rfl | rfl <;> subst hv <;> decide
theorem isrt_m {k v : Int} (h5 : k = 5) (hv : ¬ mkv v = 0) : isrt k v = -1 ∧ ¬ v = 125 ∧ ¬ v = 93 := by
  have h : v = 126 ∨ v = 40 ∨ v = 41 ∨ v = 39 ∨ v = 94 ∨ v = 45 ∨ v = 37 := by
    unfold mkv at hv
    by_cases a : v = 126
    · exact Or.inl a
    · by_cases a2 : v = 40
      · omega
      · by_cases a3 : v = 41
        · omega
        · by_cases a4 : v = 39
          · omega
          · by_cases a5 : v = 94
            · omega
            · by_cases a6 : v = 45
              · omega
              · by_cases a7 : v = 37
                · omega
                · simp [a, a2, a3, a4, a5, a6, a7] at hv
  subst h5
  rcases h with rfl | rfl | rfl | rfl | rfl | rfl | rfl <;> decide
theorem SLR_0 {L : Int} {d : Nat} {j lo hi pl ph : Int} {B Bm : zB} : SLR L d 0 (-1) j j lo hi pl ph B Bm := fun _ _ _ _ => ⟨rfl, rfl⟩
theorem SLR_1 {L : Int} {d n : Nat} {x j j1 e hi hi' pl ph ph' fr : Int} {B1 Bm1 B2 Bm2 : zB} (hx : 0 ≤ x ∧ x < 3000) (hj : j < j1) (he : j1 ≤ e) (h31 : Bm1 14 0 31 j = j1) (hI : SIR L d x j hi pl ph j1 B1 Bm1) (hR : SLR L d n (B2 3 0 5 x) j1 e hi hi' ph ph' B2 Bm2) (hK : fK 5 x hi ph B1 B2) (hJ : fJ fr j1 Bm1 Bm2) (hf : fr < j) (h1 : x < hi) (h2 : hi ≤ hi') (h3 : pl ≤ ph) (h4 : ph ≤ ph') : SLR L d (n + 1) x j e x hi' pl ph' B2 Bm2 := by
  intro Bx By a b
  have e31 : By 14 0 31 j = j1 := by
    rw [b.1 31 j (by decide) (by decide) (Int.le_refl _) (by first | decide | omega), hJ 14 0 31 j (fun z => by have := z.2.2.2.2; omega) (fun z => absurd z.2.2.1 (by decide))]; exact h31
  have e5 : Bx 3 0 5 x = B2 3 0 5 x := a.1 5 x (by decide) (Int.le_refl _) (by first | decide | omega) (fun z => by have := z.2; omega)
  have aK : agB L x hi pl ph x B1 B2 := ⟨fun k y p q r s => hK 3 0 k y (fun z => by have := z.2.2.2; omega) (fun z => by have := z.2.2.1; omega) (fun z => s ⟨z.2.2.1, z.2.2.2⟩), fun k y p q r s => hK 3 0 k y (fun z => by have := z.2.2.1; omega) (fun z => by have := z.2.2.2.2; omega) (fun z => by have := z.2.2.1; omega), fun q p r => hK 3 0 13 q (fun z => absurd z.2.2.1 (by decide)) (fun z => absurd z.2.2.2.1 (by decide)) (fun z => absurd z.2.2.1 (by decide))⟩
  have aJ : agM L j j1 Bm1 Bm2 := ⟨fun k y p q r s => hJ 14 0 k y (fun z => by have := z.2.2.2.2; omega) (fun z => by have := z.2.2.2; omega), fun k p q => fJ_k hJ k (by first | decide | omega), fun q p r => hJ 14 0 25 q (fun z => absurd z.2.2.1 (by decide)) (fun z => absurd z.2.2.1 (by decide))⟩
  have ax : agB L x hi pl ph x B2 Bx := ⟨fun k y p q r s => a.1 k y p q (by first | decide | omega) (fun z => by have := z.2; omega), fun k y p q r s => a.2.1 k y p q (by first | decide | omega) (by first | decide | omega), a.2.2⟩
  refine ⟨hx, ?_, hI Bx By (agB_t aK ax) (agM_t aJ (agM_m b (Int.le_refl _) he)), ?_⟩
  · rw [e31]; omega
  · rw [e31, e5]
    exact hR Bx By (agB_m a (by first | decide | omega) (Int.le_refl _) (by first | decide | omega) (Int.le_refl _) (Or.inl rfl)) (agM_m b (by first | decide | omega) (Int.le_refl _))
end
