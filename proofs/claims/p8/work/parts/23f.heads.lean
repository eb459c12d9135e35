section
/-! ===== key, time, tempo, on both sides ===== -/
theorem PS_cg {N j : Int} {F F' : zF} {B : zB} {Fm Fm' : zF} {Bm : zB} (h : PS N j F B Fm Bm) (h10 : ∀ k, F' 10 0 k = F 10 0 k) (h3 : ∀ k, k = 11 ∨ k = 15 ∨ k = 18 ∨ k = 20 ∨ k = 21 → F' 3 0 k = F 3 0 k) (hm : ∀ k, k = 16 ∨ k = 17 ∨ k = 19 ∨ k = 20 ∨ k = 21 → Fm' 14 0 k = Fm 14 0 k) : PS N j F' B Fm' Bm := by
  unfold PS CUR at *
  rw [h3 11 (by decide), h3 15 (by decide), h3 18 (by decide), h3 20 (by decide), h3 21 (by decide), hm 16 (by decide), hm 17 (by decide), hm 19 (by decide), hm 20 (by decide), hm 21 (by decide)]
  simp only [h10]
  exact h
theorem ERR_cg {F F' Fm Fm' : zF} (h : ERR F Fm) (h3 : F' 3 0 21 = F 3 0 21) (h17 : Fm' 14 0 17 = Fm 14 0 17) (h18 : Fm' 14 0 18 = Fm 14 0 18) : ERR F' Fm' := by
  unfold ERR bad at *
  rw [h3, h17, h18]; exact h
/-- what the head of a text has told so far -/
def HP (K : zK) (p w : Int) (F Fm : zF) : Prop := (0 ≤ p ∧ p < K.2 6) ∧ (0 ≤ w ∧ w < 3) ∧ Fm 14 0 6 = w ∧ (F 6 p 2 = Fm 13 w 2 ∧ -7 ≤ F 6 p 2 ∧ F 6 p 2 ≤ 7) ∧ (F 6 p 3 = Fm 13 w 3 ∧ (F 6 p 3 = 0 ∨ F 6 p 3 = 1)) ∧ (F 6 p 4 = Fm 13 w 4 ∧ 1 ≤ F 6 p 4 ∧ F 6 p 4 ≤ 12) ∧ (F 6 p 5 = Fm 13 w 5 ∧ (F 6 p 5 = 2 ∨ F 6 p 5 = 4 ∨ F 6 p 5 = 8 ∨ F 6 p 5 = 16)) ∧ (F 6 p 6 = Fm 13 w 6 ∧ 20 ≤ F 6 p 6 ∧ F 6 p 6 ≤ 300) ∧ F 3 0 17 = Fm 14 0 22 + 2 * Fm 14 0 23 + 4 * Fm 14 0 24 ∧ (Fm 14 0 22 = 0 ∨ Fm 14 0 22 = 1) ∧ (Fm 14 0 23 = 0 ∨ Fm 14 0 23 = 1) ∧ (Fm 14 0 24 = 0 ∨ Fm 14 0 24 = 1)
def hF (p : Int) (F F' : zF) : Prop := ∀ c i k, ¬ (c = 10 ∧ i = 0) → ¬ (c = 3 ∧ i = 0 ∧ k ≠ 11) → ¬ (c = 6 ∧ i = p ∧ 2 ≤ k ∧ k ≤ 6) → F' c i k = F c i k
def hG (w : Int) (F F' : zF) : Prop := ∀ c i k, ¬ (c = 14 ∧ i = 0 ∧ 16 ≤ k ∧ k ≤ 27) → ¬ (c = 13 ∧ i = w ∧ 2 ≤ k ∧ k ≤ 6) → F' c i k = F c i k
theorem hF_t {p : Int} {F F' F'' : zF} (h : hF p F F') (h' : hF p F' F'') : hF p F F'' := fun c i k a b d => by rw [h' c i k a b d, h c i k a b d]
theorem hG_t {w : Int} {F F' F'' : zF} (h : hG w F F') (h' : hG w F' F'') : hG w F F'' := fun c i k a b => by rw [h' c i k a b, h c i k a b]
theorem hF_r {p : Int} {F : zF} : hF p F F := fun _ _ _ _ _ _ => rfl
theorem hG_r {w : Int} {F : zF} : hG w F F := fun _ _ _ _ _ => rfl
theorem hF_a {p : Int} {F F' : zF} {B : zB} (h : hF p F F') : hF p F (advF F' B) := fun c i k a b d => by rw [advF_o a]; exact h c i k a b d
theorem hF_u {p v : Int} {F F' : zF} {k : Nat} (h : hF p F F') (hk : k ≠ 11) : hF p F (zup3 F' 3 0 k v) := fun c i x a b d => by
  rw [zup3_v, if_neg (fun z => b ⟨z.1, z.2.1, by rw [z.2.2]; exact hk⟩)]; exact h c i x a b d
theorem hF_6 {p v : Int} {F F' : zF} {k : Nat} (h : hF p F F') (h2 : 2 ≤ k) (h6 : k ≤ 6) : hF p F (zup3 F' 6 p k v) := fun c i x a b d => by
  rw [zup3_v, if_neg (fun z => d ⟨z.1, z.2.1, by rw [z.2.2]; exact h2, by rw [z.2.2]; exact h6⟩)]; exact h c i x a b d
theorem hF_e {p s : Int} {F F' : zF} (h : hF p F F') : hF p F (refF F' s) := hF_u h (by decide)
theorem hF_f {p : Int} {F F' : zF} (h : fF F F') : hF p F F' := fun c i k a b _ => h c i k a (fun z => b ⟨z.1, z.2.1, by have := z.2.2; omega⟩)
theorem hG_u {w v : Int} {F F' : zF} {k : Nat} (h : hG w F F') (h1 : 16 ≤ k) (h2 : k ≤ 27) : hG w F (zup3 F' 14 0 k v) := fun c i x a b => by
  rw [zup3_v, if_neg (fun z => a ⟨z.1, z.2.1, by rw [z.2.2]; exact h1, by rw [z.2.2]; exact h2⟩)]; exact h c i x a b
theorem hG_3 {w v : Int} {F F' : zF} {k : Nat} (h : hG w F F') (h1 : 2 ≤ k) (h2 : k ≤ 6) : hG w F (zup3 F' 13 w k v) := fun c i x a b => by
  rw [zup3_v, if_neg (fun z => b ⟨z.1, z.2.1, by rw [z.2.2]; exact h1, by rw [z.2.2]; exact h2⟩)]; exact h c i x a b
theorem hG_e {w s : Int} {F F' : zF} {B : zB} (h : hG w F F') : hG w F (errM F' B s) := hG_u (hG_u h (by decide) (by decide)) (by decide) (by decide)
theorem hG_f {w : Int} {F F' : zF} (h : fG F F') : hG w F F' := fun c i k a _ => h c i k (fun z => a ⟨z.1, z.2.1, z.2.2.1, by have := z.2.2.2; omega⟩)
/-- a head is taken, or refused, alike -/
def HPO (K : zK) (N j p w dl : Int) (F : zF) (B : zB) (Fm : zF) (Bm : zB) (r : Int) (F' : zF) (B' : zB) (Fm' : zF) (Bm' : zB) : Prop := B' = B ∧ Bm' = Bm ∧ hF p F F' ∧ hG w Fm Fm' ∧ (r = 1 ∧ (∃ j', j < j' ∧ PS N j' F' B' Fm' Bm' ∧ HP K p w F' Fm' ∧ F' 3 0 14 = F 3 0 14 ∧ F' 3 0 16 = F 3 0 16 ∧ Fm' 14 0 27 = Fm 14 0 27 ∧ F' 3 0 18 = F 3 0 18 ∧ F' 3 0 15 = F 3 0 15 ∧ Fm' 14 0 22 + Fm' 14 0 23 + Fm' 14 0 24 = Fm 14 0 22 + Fm 14 0 23 + Fm 14 0 24 + dl) ∨ r = 0 ∧ ERR F' Fm')
theorem zor8 : ∀ a b c : Fin 2, (a.val = 0 → zor ((a.val : Int) + 2 * (b.val : Int) + 4 * (c.val : Int)) 1 = 1 + 2 * (b.val : Int) + 4 * (c.val : Int)) ∧ (b.val = 0 → zor ((a.val : Int) + 2 * (b.val : Int) + 4 * (c.val : Int)) 2 = (a.val : Int) + 2 + 4 * (c.val : Int)) ∧ (c.val = 0 → zor ((a.val : Int) + 2 * (b.val : Int) + 4 * (c.val : Int)) 4 = (a.val : Int) + 2 * (b.val : Int) + 4) ∧ (zand ((a.val : Int) + 2 * (b.val : Int) + 4 * (c.val : Int)) 1 = (a.val : Int)) ∧ (zand ((a.val : Int) + 2 * (b.val : Int) + 4 * (c.val : Int)) 2 = 2 * (b.val : Int)) ∧ (zand ((a.val : Int) + 2 * (b.val : Int) + 4 * (c.val : Int)) 4 = 4 * (c.val : Int)) := by decide +kernel
theorem zor8i {a b c : Int} (ha : a = 0 ∨ a = 1) (hb : b = 0 ∨ b = 1) (hc : c = 0 ∨ c = 1) : (a = 0 → zor (a + 2 * b + 4 * c) 1 = 1 + 2 * b + 4 * c) ∧ (b = 0 → zor (a + 2 * b + 4 * c) 2 = a + 2 + 4 * c) ∧ (c = 0 → zor (a + 2 * b + 4 * c) 4 = a + 2 * b + 4) ∧ zand (a + 2 * b + 4 * c) 1 = a ∧ zand (a + 2 * b + 4 * c) 2 = 2 * b ∧ zand (a + 2 * b + 4 * c) 4 = 4 * c := by
  have h := zor8 ⟨a.toNat, (by first | decide | omega)⟩ ⟨b.toNat, (by first | decide | omega)⟩ ⟨c.toNat, (by first | decide | omega)⟩
  have e : ∀ z : Int, (z = 0 ∨ z = 1) → ((z.toNat : Nat) : Int) = z := fun z hz => by omega
  simp only [e a ha, e b hb, e c hc] at h
  refine ⟨fun z => h.1 (by first | decide | omega), fun z => h.2.1 (by first | decide | omega), fun z => h.2.2.1 (by first | decide | omega), h.2.2.2⟩
/-- which head a word begins: 1 key, 2 time, 4 tempo -/
def hds (k v : Int) : Int := if k = 4 then (if v = 7038329 then 1 else if v = 1953066341 then 2 else if v = 499917877359 then 4 else 0) else 0
theorem C_headSort {K : zK} {F : zF} {B : zB} (h : CX K F B) : f_Parser_headSort K 0 F B = some (hds (F 10 0 0) (F 10 0 2), F, B) := by
  have w1 := C_isWord (c := 7038329) h (by decide)
  have w2 := C_isWord (c := 1953066341) h (by decide)
  have w3 := C_isWord (c := 499917877359) h (by decide)
  have r1 := wdn_r F 7038329
  have r2 := wdn_r F 1953066341
  have r3 := wdn_r F 499917877359
  obtain ⟨k3, k10, e11, hk, hv, hx, h5, hK⟩ := h
  unfold f_Parser_headSort f_Parser_headSort_48 hds
  rw [if_pos ⟨(by first | decide | omega), k3⟩, e11, if_pos ⟨(by first | decide | omega), k10⟩, w1]
  simp only [zb_s]
  rw [if_pos (by first | decide | omega)]
  by_cases a : F 10 0 0 = 4
  · rw [if_pos a]
    by_cases v1 : F 10 0 2 = 7038329
    · rw [if_neg (by rw [wdn_0]; exact fun z => z ⟨a, v1⟩), if_pos v1]
    · rw [if_pos (wdn_0.mpr (fun z => v1 z.2)), if_neg v1, e11, if_pos ⟨(by first | decide | omega), k10⟩, w2]
      simp only [zb_s]
      rw [if_pos (by first | decide | omega)]
      by_cases v2 : F 10 0 2 = 1953066341
      · rw [if_neg (by rw [wdn_0]; exact fun z => z ⟨a, v2⟩), if_pos v2]
      · rw [if_pos (wdn_0.mpr (fun z => v2 z.2)), if_neg v2, e11, if_pos ⟨(by first | decide | omega), k10⟩, w3]
        simp only [zb_s]
        rw [if_pos (by first | decide | omega)]
        by_cases v3 : F 10 0 2 = 499917877359
        · rw [if_neg (by rw [wdn_0]; exact fun z => z ⟨a, v3⟩), if_pos v3]
        · rw [if_pos (wdn_0.mpr (fun z => v3 z.2)), if_neg v3]
  · have n : ∀ c, wdn F c = 0 := fun c => wdn_0.mpr (fun z => a z.1)
    rw [if_neg a, if_pos (n _), e11, if_pos ⟨(by first | decide | omega), k10⟩, w2]
    simp only [zb_s]
    rw [if_pos (by first | decide | omega), if_pos (n _), e11, if_pos ⟨(by first | decide | omega), k10⟩, w3]
    simp only [zb_s]
    rw [if_pos (by first | decide | omega), if_pos (n _)]
theorem P_tempo {K : zK} {Km : Nat} {N j p w : Int} {F : zF} {B : zB} {Fm : zF} {Bm : zB} (hE : EV K Km N B Bm) (hS : PS N j F B Fm Bm) (hP : HP K p w F Fm) (wd : wdAt Bm j 499917877359) (h24 : Fm 14 0 24 = 0) : zP (f_Parser_takeHead K 0 p F B) (f_M_head Km Fm Bm) (fun r F' B' _ Fm' Bm' => HPO K N j p w 1 F B Fm Bm r F' B' Fm' Bm') := by
  have hX := PS_CX hE hS
  have hM := PS_MX hE hS
  have k3 := hE.2.2.2.1
  have k10 := hE.2.2.2.2.1
  have h4 := wd.1
  have ek := hS.2.1.2.1
  have tk := hE.1.2.2 j hS.2.1.1.1 hS.2.1.1.2
  have ev : F 10 0 2 = 499917877359 := by rw [hS.2.1.2.2.2.1, (tk.2.2.2.2.2.2.1 h4).1]; exact wd.2
  have hs : hds (F 10 0 0) (F 10 0 2) = 4 := by rw [ek, h4, ev]; decide
  have t : ∀ c, r64 c → f_M_isWord Km c Fm Bm = some (if 499917877359 = c then 1 else 0, Fm, Bm) := fun c hc => L_wd hM wd hc
  obtain ⟨p0, w0, h6, q2, q3, q4, q5, q6, q17, q22, q23, q24⟩ := hP
  have z8 := (zor8i q22 q23 q24).2.2.1 h24
  rw [← q17] at z8
  have hSu : PS N j (zup3 F 3 0 17 (zor (F 3 0 17) 4)) B (zup3 Fm 14 0 24 1) Bm := PS_cg (PS_u (k := 17) (v := zor (F 3 0 17) 4) hS (by decide)) (fun _ => rfl) (fun _ _ => rfl) (fun k hk => by rw [zup3_v, if_neg (fun z => by have := z.2.2; omega)])
  have hS1 := PS_step hE hSu (by first | decide | omega)
  unfold f_Parser_takeHead f_M_head f_M_head_113 f_M_head_152
  rw [if_pos ⟨(by first | decide | omega), k3⟩, C_headSort hX, hs]
  simp only [t 7038329 (by decide), t 1953066341 (by decide), t 499917877359 (by decide), zb_s, ir0, ir1, if_true, if_false, Int.reduceEq, h24, h6, hM.1]
  rw [hX.2.2.1, if_pos ⟨(by first | decide | omega), k10⟩, C_adv (CX_u hX (by decide)), if_pos w0]
  simp only [zb_s, if_false, Int.reduceEq]
  rw [if_pos (show r32 4 by decide)]
  rcases P_num hE hS1 (lo := 20) (hi := 300) (by decide) (by decide) with ⟨n1, n2, n3, c1, m1, hS2⟩ | ⟨s, s', v, c1, m1, er⟩
  · rw [c1, m1]
    simp only [zb_s, ir1, i10]
    rw [if_pos p0]
    have e19 : (advF (zup3 (advF (zup3 F 3 0 17 (zor (F 3 0 17) 4)) B) 3 0 19 (Bm 14 0 9 (j + 1))) B) 3 0 19 = Bm 14 0 9 (j + 1) := by rw [advF_o (by decide)]; simp [zup3_v]
    rw [e19]
    refine zP_s ⟨rfl, rfl, hF_6 (hF_a (hF_u (hF_a (hF_u hF_r (by decide))) (by decide))) (by decide) (by decide), hG_3 (hG_u (hG_u (hG_u hG_r (by decide) (by decide)) (by decide) (by decide)) (by decide) (by decide)) (by decide) (by decide), Or.inl ⟨rfl, j + 1 + 1, (by first | decide | omega), ?_, ?_, ?_, ?_, ?_, ?_, ?_, ?_⟩⟩
    · exact PS_cg hS2 (fun k => by simp [zup3_v]) (fun k _ => by simp [zup3_v]) (fun k _ => by simp [zup3_v])
    · refine ⟨p0, w0, ?_, ?_, ?_, ?_, ?_, ?_, ?_, ?_, ?_, ?_⟩ <;> simp [zup3_v, advF_o] <;> first | assumption | omega
    · simp [zup3_v, advF_o]
    · simp [zup3_v, advF_o]
    · simp [zup3_v, advF_o]
    · simp [zup3_v, advF_o]
    · simp [zup3_v, advF_o]
    · simp [zup3_v, advF_o] <;> omega
  · rw [c1, m1]
    simp only [zb_s, ir0, i00]
    refine zP_s ⟨rfl, rfl, hF_e (hF_a (hF_u hF_r (by decide))), hG_3 (hG_e (hG_u (hG_u hG_r (by decide) (by decide)) (by decide) (by decide))) (by decide) (by decide), Or.inr ⟨rfl, ERR_cg er rfl (by simp [zup3_v]) (by simp [zup3_v])⟩⟩
end
