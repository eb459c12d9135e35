section
/-! ===== both sides stepped together ===== -/
def zP (x y : zO) (Q : Int → zF → zB → Int → zF → zB → Prop) : Prop := ∃ r F B r' F' B', x = some (r, F, B) ∧ y = some (r', F', B') ∧ Q r F B r' F' B'
theorem zP_s {r r' : Int} {F F' : zF} {B B' : zB} {Q : Int → zF → zB → Int → zF → zB → Prop} (h : Q r F B r' F' B') : zP (some (r, F, B)) (some (r', F', B')) Q := ⟨r, F, B, r', F', B', rfl, rfl, h⟩
theorem zP_m {x y : zO} {R Q : Int → zF → zB → Int → zF → zB → Prop} (h : zP x y R) (hk : ∀ r F B r' F' B', R r F B r' F' B' → Q r F B r' F' B') : zP x y Q := by
  obtain ⟨r, F, B, r', F', B', e, e', q⟩ := h
  exact ⟨r, F, B, r', F', B', e, e', hk _ _ _ _ _ _ q⟩
theorem zP_c {x y : zO} {k k' : Int → zF → zB → zO} {R Q : Int → zF → zB → Int → zF → zB → Prop} (h : zP x y R) (hk : ∀ r F B r' F' B', R r F B r' F' B' → zP (k r F B) (k' r' F' B') Q) : zP (zbind x k) (zbind y k') Q := by
  obtain ⟨r, F, B, r', F', B', e, e', q⟩ := h
  rw [e, e']
  exact hk _ _ _ _ _ _ q
theorem zP_cl {x y : zO} {k : Int → zF → zB → zO} {R Q : Int → zF → zB → Int → zF → zB → Prop} (h : zP x y R) (hk : ∀ r F B r' F' B', R r F B r' F' B' → zP (k r F B) (some (r', F', B')) Q) : zP (zbind x k) y Q := by
  obtain ⟨r, F, B, r', F', B', e, e', q⟩ := h
  rw [e, e']
  exact hk _ _ _ _ _ _ q
/-- the token that the class has come to is the reference's token j -/
def CUR (F : zF) (B Bm : zB) (N j : Int) : Prop := (0 ≤ j ∧ j ≤ N) ∧ F 10 0 0 = Bm 14 0 7 j ∧ F 10 0 1 = Bm 14 0 8 j ∧ F 10 0 2 = B 10 0 7 j ∧ (Bm 14 0 7 j = 2 → F 10 0 3 = Bm 14 0 9 j ∧ F 10 0 4 = Bm 14 0 10 j) ∧ F 10 0 8 = (if j = N then N else j + 1)
theorem advF_o {F : zF} {B : zB} {c k : Nat} {i : Int} (h : ¬ (c = 10 ∧ i = 0)) : advF F B c i k = F c i k := by
  have n : ∀ x, ¬ (c = 10 ∧ i = 0 ∧ k = x) := fun x z => h ⟨z.1, z.2.1⟩
  unfold advF
  split
  · simp only [zup3_v]
    simp only [if_neg (n _)]
  · simp only [zup3_v]
    simp only [if_neg (n _)]
theorem CUR_adv {F : zF} {B Bm : zB} {N j : Int} (hT : TK B Bm N) (h : CUR F B Bm N j) (hj : ¬ Bm 14 0 7 j = 0) : CUR (advF F B) B Bm N (j + 1) := by
  obtain ⟨n0, n1, hT⟩ := hT
  obtain ⟨⟨j0, j1⟩, hk, hp, hv, hs, hx⟩ := h
  have t0 := (hT j j0 j1).2.2.2.1
  have jN : ¬ j = N := fun z => hj (t0.mpr z)
  rw [if_neg jN] at hx
  obtain ⟨a1, a2, a3, a4, a5, a6, a7, a8, a9, a10, a11⟩ := hT (j + 1) (by first | decide | omega) (by first | decide | omega)
  unfold CUR advF
  rw [hx]
  by_cases e : B 10 0 5 (j + 1) = 2
  · have e' : Bm 14 0 7 (j + 1) = 2 := by omega
    obtain ⟨b1, b2, b3, b4, b5⟩ := a5 e'
    have n : ¬ j + 1 = N := fun z => by have := a4.mpr z; omega
    rw [if_pos e, if_neg n]
    simp only [zup3_v]
    have d1 : zdv (B 10 0 7 (j + 1)) 8 = Bm 14 0 9 (j + 1) := by rw [zdv_e (by first | decide | omega) (by first | decide | omega) (by decide) (by decide)]; omega
    have d2 : zrm (B 10 0 7 (j + 1)) 8 - 2 = Bm 14 0 10 (j + 1) := by rw [zrm_e (by first | decide | omega) (by first | decide | omega) (by decide) (by decide)]; omega
    refine ⟨(by first | decide | omega), ?_, ?_, ?_, fun _ => ⟨?_, ?_⟩, ?_⟩
    · simpa using a1
    · simpa using a2
    · simp
    · simpa using d1
    · simpa using d2
    · simp; omega
  · have e' : ¬ Bm 14 0 7 (j + 1) = 2 := by omega
    rw [if_neg e]
    simp only [zup3_v]
    refine ⟨(by first | decide | omega), ?_, ?_, ?_, fun z => absurd z e', ?_⟩
    · simpa using a1
    · simpa using a2
    · simp
    · simp
      by_cases q : j + 1 = N
      · rw [if_pos q, if_pos (Or.inl (by have := a4.mpr q; omega))]; exact q
      · rw [if_neg q, if_neg]
        rintro (z | z)
        · exact q (a4.mp (by first | decide | omega))
        · omega
def lenV (n p : Int) : Int := zdv (zdv 128 n * ztv 4 p) 4
/-- what both parsers stand on: tokens, words, room -/
def EV (K : zK) (Km : Nat) (N : Int) (B Bm : zB) : Prop := TK B Bm N ∧ MW Bm ∧ (∀ j, r32 (B 10 0 5 j)) ∧ 0 < K.2 3 ∧ 0 < K.2 10 ∧ 3002 ≤ K.1 ∧ 3002 ≤ Km
/-- both parsers at token j, and no fault yet -/
def PS (N j : Int) (F : zF) (B : zB) (Fm : zF) (Bm : zB) : Prop := F 3 0 11 = 0 ∧ CUR F B Bm N j ∧ Fm 14 0 16 = j ∧ Fm 14 0 17 = 0 ∧ F 3 0 21 = 0 ∧ (F 3 0 18 = Fm 14 0 19 ∧ 0 ≤ F 3 0 18 ∧ F 3 0 18 ≤ 8) ∧ (F 3 0 18 = 0 ∨ F 3 0 20 = lenV (Fm 14 0 20) (Fm 14 0 21) ∧ pw2 (Fm 14 0 20) ∧ 0 ≤ Fm 14 0 21 ∧ Fm 14 0 21 ≤ 2) ∧ (0 ≤ F 3 0 15 ∧ 2 * F 3 0 15 ≤ Bm 14 0 8 j)
theorem PS_CX {K : zK} {Km : Nat} {N j : Int} {F : zF} {B : zB} {Fm : zF} {Bm : zB} (hE : EV K Km N B Bm) (h : PS N j F B Fm Bm) : CX K F B := by
  obtain ⟨⟨n0, n1, hT⟩, hW, h5, k3, k10, k1, km⟩ := hE
  obtain ⟨e11, ⟨⟨j0, j1⟩, hk, hp, hv, hs, hx⟩, _⟩ := h
  obtain ⟨a1, a2, a3, a4, a5, a6, a7, a8, a9, a10, a11⟩ := hT j j0 j1
  refine ⟨k3, k10, e11, (by first | decide | omega), (by first | decide | omega), ?_, h5, k1⟩
  rw [hx]
  split <;> omega
theorem PS_MX {K : zK} {Km : Nat} {N j : Int} {F : zF} {B : zB} {Fm : zF} {Bm : zB} (hE : EV K Km N B Bm) (h : PS N j F B Fm Bm) : MX Fm Bm j := by
  obtain ⟨⟨n0, n1, hT⟩, hW, h5, k3, k10, k1, km⟩ := hE
  obtain ⟨e11, ⟨⟨j0, j1⟩, hk, hp, hv, hs, hx⟩, ht, _⟩ := h
  obtain ⟨a1, a2, a3, a4, a5, a6, a7, a8, a9, a10, a11⟩ := hT j j0 j1
  refine ⟨ht, (by first | decide | omega), (by first | decide | omega), ?_, fun z => ?_⟩
  · rintro (z | z)
    · have := a8 z; omega
    · have := a6 z; omega
  · have := a7 z; omega
theorem PS_sg {K : zK} {Km : Nat} {N j c : Int} {F : zF} {B : zB} {Fm : zF} {Bm : zB} (hE : EV K Km N B Bm) (h : PS N j F B Fm Bm) : sgn F c = sgm Bm j c := by
  obtain ⟨⟨n0, n1, hT⟩, _⟩ := hE
  obtain ⟨e11, ⟨⟨j0, j1⟩, hk, hp, hv, hs, hx⟩, ht, _⟩ := h
  obtain ⟨a1, a2, a3, a4, a5, a6, a7, a8, a9, a10, a11⟩ := hT j j0 j1
  unfold sgn sgm
  rw [hk, hv]
  by_cases a : Bm 14 0 7 j = 5
  · rw [(a8 a).1]
  · rw [if_neg (fun z => a z.1), if_neg (fun z => a z.1)]
theorem PS_wd {K : zK} {Km : Nat} {N j c : Int} {F : zF} {B : zB} {Fm : zF} {Bm : zB} (hE : EV K Km N B Bm) (h : PS N j F B Fm Bm) : wdn F c = wdm Bm j c := by
  obtain ⟨⟨n0, n1, hT⟩, _⟩ := hE
  obtain ⟨e11, ⟨⟨j0, j1⟩, hk, hp, hv, hs, hx⟩, ht, _⟩ := h
  obtain ⟨a1, a2, a3, a4, a5, a6, a7, a8, a9, a10, a11⟩ := hT j j0 j1
  unfold wdn wdm
  rw [hk, hv]
  by_cases a : Bm 14 0 7 j = 4
  · rw [(a7 a).1]
  · rw [if_neg (fun z => a z.1), if_neg (fun z => a z.1)]
theorem PS_step {K : zK} {Km : Nat} {N j : Int} {F : zF} {B : zB} {Fm : zF} {Bm : zB} (hE : EV K Km N B Bm) (h : PS N j F B Fm Bm) (hj : ¬ Bm 14 0 7 j = 0) : PS N (j + 1) (advF F B) B (zup3 Fm 14 0 16 (j + 1)) Bm := by
  have hc := CUR_adv hE.1 h.2.1 hj
  obtain ⟨⟨n0, n1, hT⟩, _⟩ := hE
  obtain ⟨e11, ⟨⟨j0, j1⟩, hk, hp, hv, hs, hx⟩, ht, hf, hw, hd, hl, hq⟩ := h
  obtain ⟨a1, a2, a3, a4, a5, a6, a7, a8, a9, a10, a11⟩ := hT j j0 j1
  have jN : j < N := by have : ¬ j = N := fun z => hj (a4.mpr z); omega
  have i := a11 jN
  refine ⟨?_, hc, ?_, ?_, ?_, ?_, ?_, ?_⟩
  · rw [advF_o (by decide)]; exact e11
  · simp [zup3_v]
  · simp [zup3_v]; exact hf
  · rw [advF_o (by decide)]; exact hw
  · rw [advF_o (by decide)]; simp [zup3_v]; exact hd
  · rw [advF_o (by decide), advF_o (by decide)]; simp [zup3_v]; exact hl
  · rw [advF_o (by decide)]; split at i <;> omega
/-- a fault, the same on both sides -/
def ERR (F Fm : zF) : Prop := (F 3 0 21 = Fm 14 0 17 + 16 * Fm 14 0 18 ∧ 0 ≤ Fm 14 0 18 ∧ Fm 14 0 18 ≤ 3000) ∧ bad Fm
theorem PS_err {K : zK} {Km : Nat} {N j s s' : Int} {F : zF} {B : zB} {Fm : zF} {Bm : zB} (hE : EV K Km N B Bm) (h : PS N j F B Fm Bm) (hs : s' = if Bm 14 0 7 j = 1 then 1 else s) (h1 : 1 ≤ s ∧ s ≤ 15) : ERR (refF F s) (errM Fm Bm s') := by
  obtain ⟨e11, ⟨⟨j0, j1⟩, hk, hp, hv, hsx, hx⟩, ht, hf, hw, hd, hl, hq⟩ := h
  have tp := (hE.1.2.2 j j0 j1).2.2.2.2.2.2.2.2.2.1
  unfold ERR refF errM bad
  simp only [zup3_v]
  simp
  rw [hk, hp, ht, hs]
  split <;> omega
theorem PS_err2 {K : zK} {Km : Nat} {N j : Int} {F : zF} {B : zB} {Fm : zF} {Bm : zB} (hE : EV K Km N B Bm) (h : PS N j F B Fm Bm) : ERR (refF F 2) (errM Fm Bm (wr Bm j)) := PS_err hE h rfl (by decide)
theorem PS_u {N j v : Int} {k : Nat} {F : zF} {B : zB} {Fm : zF} {Bm : zB} (h : PS N j F B Fm Bm) (hk : k = 14 ∨ k = 16 ∨ k = 17 ∨ k = 19) : PS N j (zup3 F 3 0 k v) B Fm Bm := by
  have e : ∀ c i x, ¬ (c = 3 ∧ i = 0 ∧ x = k) → (zup3 F 3 0 k v) c i x = F c i x := fun c i x n => by rw [zup3_v, if_neg n]
  have g : ∀ x, ¬ x = k → (zup3 F 3 0 k v) 3 0 x = F 3 0 x := fun x n => e 3 0 x (fun z => n z.2.2)
  have g10 : ∀ x, (zup3 F 3 0 k v) 10 0 x = F 10 0 x := fun x => e 10 0 x (fun z => absurd z.1 (by decide))
  unfold PS CUR at *
  rw [g 11 (by first | decide | omega), g 21 (by first | decide | omega), g 18 (by first | decide | omega), g 20 (by first | decide | omega), g 15 (by first | decide | omega)]
  simp only [g10]
  exact h
theorem PS_d {N j : Int} {F : zF} {B : zB} {Fm : zF} {Bm : zB} {d : Int} (h : PS N j F B Fm Bm) (hd : 0 ≤ d ∧ d ≤ 8) (hpw : F 3 0 20 = lenV (Fm 14 0 20) (Fm 14 0 21) ∧ pw2 (Fm 14 0 20) ∧ 0 ≤ Fm 14 0 21 ∧ Fm 14 0 21 ≤ 2) : PS N j (zup3 F 3 0 18 d) B (zup3 Fm 14 0 19 d) Bm := by
  obtain ⟨e11, hc, ht, hf, hw, hd', hl, hq⟩ := h
  unfold PS CUR at *
  simp only [zup3_v]
  simp
  exact ⟨e11, hc, ht, hf, hw, hd, Or.inr hpw, hq⟩
theorem PS_pw {N j : Int} {F : zF} {B : zB} {Fm : zF} {Bm : zB} (h : PS N j F B Fm Bm) (hd : 1 ≤ F 3 0 18) : F 3 0 20 = lenV (Fm 14 0 20) (Fm 14 0 21) ∧ pw2 (Fm 14 0 20) ∧ 0 ≤ Fm 14 0 21 ∧ Fm 14 0 21 ≤ 2 := by
  rcases h.2.2.2.2.2.2.1 with z | z
  · omega
  · exact z
theorem PS_B {N j : Int} {F : zF} {B B' : zB} {Fm : zF} {Bm Bm' : zB} (h : PS N j F B Fm Bm) (hB : ∀ k, B' 10 0 k = B 10 0 k) (hm : ∀ k, k ≤ 11 → Bm' 14 0 k = Bm 14 0 k) : PS N j F B' Fm Bm' := by
  unfold PS CUR at *
  rw [hB 7, hm 7 (by decide), hm 8 (by decide), hm 9 (by decide), hm 10 (by decide)]
  exact h
theorem EV_B {K : zK} {Km : Nat} {N : Int} {B B' Bm Bm' : zB} (h : EV K Km N B Bm) (hB : ∀ k, B' 10 0 k = B 10 0 k) (hm : ∀ k, k ≤ 15 → Bm' 14 0 k = Bm 14 0 k) : EV K Km N B' Bm' := by
  obtain ⟨⟨n0, n1, hT⟩, hW, h5, hK⟩ := h
  refine ⟨⟨n0, n1, fun j a b => ?_⟩, ?_, fun j => ?_, hK⟩
  · have t := hT j a b
    unfold TKj at *
    rw [hB 5, hB 6, hB 7, hm 7 (by decide), hm 8 (by decide), hm 9 (by decide), hm 10 (by decide), hm 11 (by decide)]
    exact t
  · unfold MW at *
    rw [hm 13 (by decide), hm 14 (by decide), hm 15 (by decide)]
    exact hW
  · rw [hB 5]; exact h5 j
def fF (F F' : zF) : Prop := ∀ c i k, ¬ (c = 10 ∧ i = 0) → ¬ (c = 3 ∧ i = 0 ∧ (k = 14 ∨ k = 15 ∨ 18 ≤ k)) → F' c i k = F c i k
def fG (F F' : zF) : Prop := ∀ c i k, ¬ (c = 14 ∧ i = 0 ∧ 16 ≤ k ∧ k ≤ 21) → F' c i k = F c i k
def fB (lo pl : Int) (B B' : zB) : Prop := ∀ c i k x, ¬ (c = 3 ∧ i = 0 ∧ k ≤ 7 ∧ lo ≤ x) → ¬ (c = 3 ∧ i = 0 ∧ 8 ≤ k ∧ k ≤ 10 ∧ pl ≤ x) → B' c i k x = B c i k x
def fH (fr : Int) (B B' : zB) : Prop := ∀ c i k x, ¬ (c = 14 ∧ i = 0 ∧ 30 ≤ k ∧ k ≤ 34 ∧ fr ≤ x) → B' c i k x = B c i k x
theorem fF_r {F : zF} : fF F F := fun _ _ _ _ _ => rfl
theorem fG_r {F : zF} : fG F F := fun _ _ _ _ => rfl
theorem fB_r {lo pl : Int} {B : zB} : fB lo pl B B := fun _ _ _ _ _ _ => rfl
theorem fH_r {fr : Int} {B : zB} : fH fr B B := fun _ _ _ _ _ => rfl
theorem fF_t {F F' F'' : zF} (h : fF F F') (h' : fF F' F'') : fF F F'' := fun c i k a b => by rw [h' c i k a b, h c i k a b]
theorem fG_t {F F' F'' : zF} (h : fG F F') (h' : fG F' F'') : fG F F'' := fun c i k a => by rw [h' c i k a, h c i k a]
theorem fB_t {lo pl : Int} {B B' B'' : zB} (h : fB lo pl B B') (h' : fB lo pl B' B'') : fB lo pl B B'' := fun c i k x a b => by rw [h' c i k x a b, h c i k x a b]
theorem fH_t {fr : Int} {B B' B'' : zB} (h : fH fr B B') (h' : fH fr B' B'') : fH fr B B'' := fun c i k x a => by rw [h' c i k x a, h c i k x a]
theorem fB_m {lo pl lo' pl' : Int} {B B' : zB} (h : fB lo pl B B') (h1 : lo' ≤ lo) (h2 : pl' ≤ pl) : fB lo' pl' B B' := fun c i k x a b => h c i k x (fun z => a ⟨z.1, z.2.1, z.2.2.1, (by first | decide | omega)⟩) (fun z => b ⟨z.1, z.2.1, z.2.2.1, z.2.2.2.1, (by first | decide | omega)⟩)
theorem fH_m {fr fr' : Int} {B B' : zB} (h : fH fr B B') (h1 : fr' ≤ fr) : fH fr' B B' := fun c i k x a => h c i k x (fun z => a ⟨z.1, z.2.1, z.2.2.1, z.2.2.2.1, (by first | decide | omega)⟩)
theorem fF_a {F F' : zF} {B : zB} (h : fF F F') : fF F (advF F' B) := fun c i k a b => by rw [advF_o a]; exact h c i k a b
theorem fF_u {F F' : zF} {k : Nat} {v : Int} (h : fF F F') (hk : k = 14 ∨ k = 15 ∨ 18 ≤ k) : fF F (zup3 F' 3 0 k v) := fun c i x a b => by
  rw [zup3_v, if_neg (fun z => b ⟨z.1, z.2.1, by rw [z.2.2]; exact hk⟩)]; exact h c i x a b
theorem fF_e {F F' : zF} {s : Int} (h : fF F F') : fF F (refF F' s) := fF_u h (by decide)
theorem fG_u {F F' : zF} {k : Nat} {v : Int} (h : fG F F') (h1 : 16 ≤ k) (h2 : k ≤ 21) : fG F (zup3 F' 14 0 k v) := fun c i x a => by
  rw [zup3_v, if_neg (fun z => a ⟨z.1, z.2.1, by rw [z.2.2]; exact h1, by rw [z.2.2]; exact h2⟩)]; exact h c i x a
theorem fG_e {F F' : zF} {B : zB} {s : Int} (h : fG F F') : fG F (errM F' B s) := fG_u (fG_u h (by decide) (by decide)) (by decide) (by decide)
theorem fB_u {lo pl : Int} {B B' : zB} {k : Nat} {x v : Int} (h : fB lo pl B B') (hk : k ≤ 7 ∧ lo ≤ x ∨ 8 ≤ k ∧ k ≤ 10 ∧ pl ≤ x) : fB lo pl B (zup4 B' 3 0 k x v) := fun c i y z a b => by
  rw [zup4_v, if_neg]
  · exact h c i y z a b
  · rintro ⟨rfl, rfl, rfl, rfl⟩
    rcases hk with q | q
    · exact a ⟨rfl, rfl, q⟩
    · exact b ⟨rfl, rfl, q⟩
theorem fH_u {fr : Int} {B B' : zB} {k : Nat} {x v : Int} (h : fH fr B B') (h1 : 30 ≤ k) (h2 : k ≤ 34) (h3 : fr ≤ x) : fH fr B (zup4 B' 14 0 k x v) := fun c i y z a => by
  rw [zup4_v, if_neg]
  · exact h c i y z a
  · rintro ⟨rfl, rfl, rfl, rfl⟩
    exact a ⟨rfl, rfl, h1, h2, h3⟩
theorem fB_10 {lo pl : Int} {B B' : zB} (h : fB lo pl B B') (k : Nat) : B' 10 0 k = B 10 0 k := by
  funext x; exact h 10 0 k x (fun z => absurd z.1 (by decide)) (fun z => absurd z.1 (by decide))
theorem fH_k {fr : Int} {B B' : zB} (h : fH fr B B') (k : Nat) (hk : k ≤ 29) : B' 14 0 k = B 14 0 k := by
  funext x; exact h 14 0 k x (fun z => by have := z.2.2.1; omega)
theorem EV_f {K : zK} {Km : Nat} {N lo pl fr : Int} {B B' Bm Bm' : zB} (h : EV K Km N B Bm) (hB : fB lo pl B B') (hm : fH fr Bm Bm') : EV K Km N B' Bm' := EV_B h (fB_10 hB) (fun k hk => fH_k hm k (by first | decide | omega))
theorem PS_f {N j lo pl fr : Int} {F : zF} {B B' : zB} {Fm : zF} {Bm Bm' : zB} (h : PS N j F B Fm Bm) (hB : fB lo pl B B') (hm : fH fr Bm Bm') : PS N j F B' Fm Bm' := PS_B h (fB_10 hB) (fun k hk => fH_k hm k (by first | decide | omega))
end
