section
/-! ===== a text is parsed, on both sides ===== -/
theorem CUR_0 {F : zF} {B Bm : zB} {N : Int} (hT : TK B Bm N) (hx : F 10 0 8 = 0) : CUR (advF F B) B Bm N 0 := by
  obtain ⟨n0, n1, hT⟩ := hT
  obtain ⟨a1, a2, a3, a4, a5, a6, a7, a8, a9, a10, a11⟩ := hT 0 (by first | decide | omega) (by first | decide | omega)
  unfold CUR advF
  rw [hx]
  by_cases e : B 10 0 5 0 = 2
  · have e' : Bm 14 0 7 0 = 2 := by omega
    obtain ⟨b1, b2, b3, b4, b5⟩ := a5 e'
    have n : ¬ (0 : Int) = N := fun z => by have := a4.mpr z; omega
    rw [if_pos e, if_neg n]
    simp only [zup3_v]
    have d1 : zdv (B 10 0 7 0) 8 = Bm 14 0 9 0 := by rw [zdv_e (by first | decide | omega) (by first | decide | omega) (by decide) (by decide)]; omega
    have d2 : zrm (B 10 0 7 0) 8 - 2 = Bm 14 0 10 0 := by rw [zrm_e (by first | decide | omega) (by first | decide | omega) (by decide) (by decide)]; omega
    refine ⟨(by first | decide | omega), ?_, ?_, ?_, fun _ => ⟨?_, ?_⟩, ?_⟩
    · simpa using a1
    · simpa using a2
    · simp
    · simpa using d1
    · simpa using d2
    · simp
  · have e' : ¬ Bm 14 0 7 0 = 2 := by omega
    rw [if_neg e]
    simp only [zup3_v]
    refine ⟨(by first | decide | omega), ?_, ?_, ?_, fun z => absurd z e', ?_⟩
    · simpa using a1
    · simpa using a2
    · simp
    · simp
      by_cases q : (0 : Int) = N
      · rw [if_pos q, if_pos (by have := a4.mpr q; omega)]; exact q
      · rw [if_neg q, if_neg]
        intro z
        exact q (a4.mp (by first | decide | omega))
/-- the frames of parsing -/
def PF (K : zK) (p w : Int) (F : zF) (B : zB) (Fm : zF) (Bm : zB) (K' : zK) (F' : zF) (B' : zB) (Fm' : zF) (Bm' : zB) : Prop := Kle K K' ∧ (∀ c y k, y < K.2 c → ¬ (c = 10 ∧ y = 0) → ¬ (c = 3 ∧ y = 0 ∧ k ≠ 11) → ¬ (c = 6 ∧ y = p ∧ 1 ≤ k ∧ k ≤ 6) → ¬ (c = 4 ∧ ∃ v, 0 ≤ v ∧ v < 4 ∧ y = B 6 p 0 v) → F' c y k = F c y k) ∧ (∀ c y k x, y < K.2 c → ¬ (c = 3 ∧ y = 0) → ¬ (c = 10 ∧ y = 0) → ¬ (c = 6 ∧ y = p ∧ k = 0) → B' c y k x = B c y k x) ∧ (∀ v, 0 ≤ v → v < 4 → B' 6 p 0 v = B 6 p 0 v ∨ (B 6 p 0 v < 0 ∧ K.2 4 ≤ B' 6 p 0 v)) ∧ (∀ c i k, ¬ (c = 14 ∧ i = 0 ∧ (k = 3 ∨ 12 ≤ k ∧ k ≤ 27)) → ¬ (c = 13 ∧ i = w ∧ 1 ≤ k ∧ k ≤ 6) → Fm' c i k = Fm c i k) ∧ (∀ c i k x, ¬ (c = 14 ∧ i = 0 ∧ (7 ≤ k ∧ k ≤ 11 ∨ 25 ≤ k ∧ k ≤ 34)) → ¬ (c = 13 ∧ i = w ∧ 8 ≤ k ∧ k ≤ 11) → Bm' c i k x = Bm c i k x) ∧ (∀ j, r32 (B' 10 0 5 j)) ∧ (∀ q s, K.2 4 ≤ q → q < K'.2 4 → r32 (B' 4 q 12 s)) ∧ ((∀ c, ¬ (c = 1 ∨ c = 4) → K'.2 c = K.2 c) ∧ K'.2 1 = K.2 1 + 200 * (K'.2 4 - K.2 4) ∧ K'.2 4 + em B' p = K.2 4 + em B p) ∧ Fm' 14 0 3 = 0 ∧ (0 ≤ F' 6 p 1 ∧ F' 6 p 1 ≤ 4)
/-- what a text comes to: read, or the same fault -/
def RPO (K : zK) (Km : Nat) (p w : Int) (F : zF) (B : zB) (Fm : zF) (Bm : zB) (r : Int) (F' : zF) (B' : zB) (K' : zK) (Fm' : zF) (Bm' : zB) : Prop := PF K p w F B Fm Bm K' F' B' Fm' Bm' ∧ GS K' B' ∧ ((r = 0 ∧ ∃ N L V, 1 ≤ V ∧ VI K' Km N L V N p w F' B' Fm' Bm') ∨ ((r = Fm' 14 0 17 + 16 * Fm' 14 0 18 ∧ 0 ≤ Fm' 14 0 18 ∧ Fm' 14 0 18 ≤ 3000) ∧ bad Fm'))
theorem P_parse {K : zK} {Km : Nat} {n p w : Int} {t : Int → Int} {F : zF} {B : zB} {Fm : zF} {Bm : zB} (hK : 3002 ≤ K.1) (hKm : 3002 ≤ Km) (hK0 : 0 < K.2 0) (hK3 : 0 < K.2 3) (hK10 : 0 < K.2 10) (e11 : F 3 0 11 = 0) (hn : F 0 0 1 = n) (n0 : 0 ≤ n) (n2 : n ≤ 3000) (hb : ∀ y, 0 ≤ t y ∧ t y < 256) (ht : B 0 0 0 = t) (h5 : ∀ j, r32 (B 10 0 5 j)) (hn' : Fm 14 0 3 = n) (ht' : tmB Bm = t) (hW : MW Bm) (hGS : GS K B) (hp : 0 ≤ p ∧ p < K.2 6) (hw : 0 ≤ w ∧ w < 3) (h6 : Fm 14 0 6 = w) (d1 : F 6 p 1 = 0) (d2 : F 6 p 2 = 0) (d3 : F 6 p 3 = 0) (d4 : F 6 p 4 = 4) (d5 : F 6 p 5 = 4) (d6 : F 6 p 6 = 120) : zPm (f_Parser_parse K 0 0 p F B) (zbind (f_M_cut Km Fm Bm) (fun _ F1 B1 => f_M_text Km (zup3 F1 14 0 3 0) B1)) (fun r F' B' K' _ Fm' Bm' => RPO K Km p w F B Fm Bm r F' B' K' Fm' Bm') := by
  unfold f_Parser_parse f_M_text
  rw [if_pos ⟨Int.le_refl _, hK3⟩, e11, if_pos ⟨Int.le_refl _, hK10⟩]
  generalize hF1 : zup3 (zup3 (zup3 (zup3 (zup3 (zup3 F 3 0 14 0) 3 0 15 0) 3 0 16 0) 3 0 17 0) 3 0 18 0) 3 0 21 0 = F1
  have g1 : ∀ c y k, ¬ (c = 3 ∧ y = 0 ∧ k ≠ 11) → F1 c y k = F c y k := fun c y k h => by
    rw [← hF1]
    simp only [zup3_v]
    rw [if_neg (fun z => h ⟨z.1, z.2.1, by have := z.2.2; omega⟩), if_neg (fun z => h ⟨z.1, z.2.1, by have := z.2.2; omega⟩), if_neg (fun z => h ⟨z.1, z.2.1, by have := z.2.2; omega⟩), if_neg (fun z => h ⟨z.1, z.2.1, by have := z.2.2; omega⟩), if_neg (fun z => h ⟨z.1, z.2.1, by have := z.2.2; omega⟩), if_neg (fun z => h ⟨z.1, z.2.1, by have := z.2.2; omega⟩)]
  have c14 : F1 3 0 14 = 0 := by rw [← hF1]; simp [zup3_v]
  have c15 : F1 3 0 15 = 0 := by rw [← hF1]; simp [zup3_v]
  have c16 : F1 3 0 16 = 0 := by rw [← hF1]; simp [zup3_v]
  have c17 : F1 3 0 17 = 0 := by rw [← hF1]; simp [zup3_v]
  have c18 : F1 3 0 18 = 0 := by rw [← hF1]; simp [zup3_v]
  have c21 : F1 3 0 21 = 0 := by rw [← hF1]; simp [zup3_v]
  obtain ⟨r2, F2, B2, s1, s2, s3, s4, s5⟩ := C_start (K := K) (F := F1) (B := B) (t := t) (n := n) hK hK0 hK10 (by rw [g1 0 0 1 (fun z => absurd z.1 (by decide))]; exact hn) n0 n2 hb ht h5
  obtain ⟨r3, Fm1, Bm1, u1, u2, u3, u4⟩ := L_cut (K := Km) (F := Fm) (B := Bm) (t := t) (n := n) hKm hn' n0 n2 ht'
  rw [s1, u1]
  simp only [zbN_s, zb_s]
  have hT := TK_of hb n0 n2 s3 u3
  generalize hN : ((lexF t n 0).length : Int) = N at *
  have e6 : (zup3 Fm1 14 0 3 0) 14 0 6 = w := by rw [u2]; simp [zup3_v]; exact h6
  rw [e6, if_pos hw]
  generalize hFm2 : zup3 (zup3 (zup3 (zup3 (zup3 (zup3 (zup3 (zup3 (zup3 (zup3 (zup3 (zup3 (zup3 (zup3 Fm1 14 0 3 0) 14 0 16 0) 14 0 17 0) 14 0 19 0) 14 0 27 0) 14 0 22 0) 14 0 23 0) 14 0 24 0) 13 w 1 0) 13 w 2 0) 13 w 3 0) 13 w 4 4) 13 w 5 4) 13 w 6 120 = Fm2
  have m2 : ∀ c i k, ¬ (c = 14 ∧ i = 0 ∧ (k = 3 ∨ 12 ≤ k ∧ k ≤ 27)) → ¬ (c = 13 ∧ i = w ∧ 1 ≤ k ∧ k ≤ 6) → Fm2 c i k = Fm c i k := fun c i k h1 h2 => by
    rw [← hFm2]
    simp only [zup3_v]
    have n13 : ∀ x, 1 ≤ x → x ≤ 6 → ¬ (c = 13 ∧ i = w ∧ k = x) := fun x a b z => h2 ⟨z.1, z.2.1, (by first | decide | omega), (by first | decide | omega)⟩
    have n14 : ∀ x, (x = 3 ∨ 12 ≤ x ∧ x ≤ 27) → ¬ (c = 14 ∧ i = 0 ∧ k = x) := fun x a z => h1 ⟨z.1, z.2.1, (by first | decide | omega)⟩
    rw [if_neg (n13 6 (by decide) (by decide)), if_neg (n13 5 (by decide) (by decide)), if_neg (n13 4 (by decide) (by decide)), if_neg (n13 3 (by decide) (by decide)), if_neg (n13 2 (by decide) (by decide)), if_neg (n13 1 (by decide) (by decide)), if_neg (n14 24 (by decide)), if_neg (n14 23 (by decide)), if_neg (n14 22 (by decide)), if_neg (n14 27 (by decide)), if_neg (n14 19 (by decide)), if_neg (n14 17 (by decide)), if_neg (n14 16 (by decide)), if_neg (n14 3 (by decide)), u2, zup3_v, if_neg (n14 12 (by decide))]
  have v6 : Fm2 14 0 6 = w := by rw [m2 14 0 6 (by decide) (fun z => absurd z.1 (by decide))]; exact h6
  have v16 : Fm2 14 0 16 = 0 := by rw [← hFm2]; simp [zup3_v]
  have v17 : Fm2 14 0 17 = 0 := by rw [← hFm2]; simp [zup3_v]
  have v19 : Fm2 14 0 19 = 0 := by rw [← hFm2]; simp [zup3_v]
  have v27 : Fm2 14 0 27 = 0 := by rw [← hFm2]; simp [zup3_v]
  have v22 : Fm2 14 0 22 = 0 := by rw [← hFm2]; simp [zup3_v]
  have v23 : Fm2 14 0 23 = 0 := by rw [← hFm2]; simp [zup3_v]
  have v24 : Fm2 14 0 24 = 0 := by rw [← hFm2]; simp [zup3_v]
  have x1 : Fm2 13 w 1 = 0 := by rw [← hFm2]; simp [zup3_v]
  have x2 : Fm2 13 w 2 = 0 := by rw [← hFm2]; simp [zup3_v]
  have x3 : Fm2 13 w 3 = 0 := by rw [← hFm2]; simp [zup3_v]
  have x4 : Fm2 13 w 4 = 4 := by rw [← hFm2]; simp [zup3_v]
  have x5 : Fm2 13 w 5 = 4 := by rw [← hFm2]; simp [zup3_v]
  have x6 : Fm2 13 w 6 = 120 := by rw [← hFm2]; simp [zup3_v]
  -- the class's world behind its tokens
  have gC : ∀ c y k, ¬ (c = 10 ∧ y = 0) → F2 c y k = F1 c y k := fun c y k h => by
    rw [s2, advF_o h, zup3_v, if_neg (fun z => h ⟨z.1, z.2.1⟩)]
  have F3k : ∀ k, F2 3 0 k = F1 3 0 k := fun k => gC 3 0 k (fun z => absurd z.1 (by decide))
  have F6k : ∀ k, F2 6 p k = F 6 p k := fun k => by rw [gC 6 p k (fun z => absurd z.1 (by decide)), g1 6 p k (fun z => absurd z.1 (by decide))]
  have bC : ∀ c y k x, ¬ (c = 10 ∧ y = 0) → B2 c y k x = B c y k x := fun c y k x h => s4 c y k x (fun z => h ⟨z.1, z.2.1⟩)
  have bM : ∀ c i k x, ¬ (c = 14 ∧ i = 0 ∧ 7 ≤ k ∧ k ≤ 11) → Bm1 c i k x = Bm c i k x := fun c i k x h => u4 c i k x (fun z => h ⟨z.1, z.2.1, by have := z.2.2.1; simp at this; omega, by have := z.2.2.1; simp at this; omega⟩)
  have hW' : MW Bm1 := by
    unfold MW at *
    have r : ∀ k, 12 ≤ k → Bm1 14 0 k = Bm 14 0 k := fun k hk => by funext y; exact bM 14 0 k y (fun z => by have := z.2.2.2; omega)
    rw [r 13 (by decide), r 14 (by decide), r 15 (by decide)]; exact hW
  have hE : EV K Km N B2 Bm1 := ⟨hT, hW', s5, hK3, hK10, hK, hKm⟩
  have t0 := hT.2.2 0 (by first | decide | omega) hT.1
  have hS : PS N 0 F2 B2 Fm2 Bm1 := by
    refine ⟨?_, ?_, v16, v17, ?_, ?_, Or.inl ?_, ?_⟩
    · rw [F3k, g1 3 0 11 (fun z => z.2.2 rfl)]; exact e11
    · rw [s2]; exact CUR_0 hT (by simp [zup3_v])
    · rw [F3k]; exact c21
    · rw [F3k, c18, v19]; decide
    · rw [F3k]; exact c18
    · rw [F3k, c15]; have := t0.2.2.2.2.2.2.2.2.2.1; omega
  have hHP : HP K p w F2 Fm2 := by
    unfold HP
    rw [F6k, F6k, F6k, F6k, F6k, F3k, d2, d3, d4, d5, d6, c17, v6, v22, v23, v24, x2, x3, x4, x5, x6]
    refine ⟨hp, hw, rfl, by decide, by decide, by decide, by decide, by decide, by decide, by decide, by decide, by decide⟩
  have hGS2 : GS K B2 := GS_B hGS (fun y v _ _ => bC 6 y 0 v (fun z => absurd z.1 (by decide))) (fun y v _ _ => bC 4 y 5 v (fun z => absurd z.1 (by decide)))
  have hVI : VI K Km N 0 0 0 p w F2 B2 Fm2 Bm1 := by
    refine ⟨⟨hE, hS, hHP, ⟨by rw [F3k]; exact c16, v27, by decide, fun q q0 q1 => (by first | decide | omega)⟩, by rw [F3k, c14]; decide, by rw [F3k, c14]; decide, by rw [F3k]; exact c18, fun q q0 q1 => (by first | decide | omega)⟩, hGS2, by rw [F6k]; exact d1, x1, by decide, fun v v0 v1 => (by first | decide | omega)⟩
  refine zPm_m (P_hloop (q := 9) (n := K.1) (m := Km) (L := 0) (l := 0) (j := 0) (by first | decide | omega) (by first | decide | omega) (by first | decide | omega) hVI (by first | decide | omega) VF_r) (fun r F' B' K' r' Fm' Bm' hh => ?_)
  obtain ⟨⟨f1, f2, f3, f4, f5, f6, f7, f8, f9⟩, gs, res⟩ := hh
  refine ⟨⟨f1, fun c y k h0 h1 h2 h3 h4 => ?_, fun c y k x h0 h1 h2 h3 => ?_, fun v v0 v1 => ?_, fun c i k h1 h2 => ?_, fun c i k x h1 h2 => ?_, fun jx => ?_, f7, ?_, ?_, ?_⟩, gs, ?_⟩
  · rw [f2 c y k h0 h1 h2 h3 (fun z => h4 ⟨z.1, by obtain ⟨v, a, b, e⟩ := z.2; exact ⟨v, a, b, by rw [e]; exact bC 6 p 0 v (fun z => absurd z.1 (by decide))⟩⟩), gC c y k h1]
    exact g1 c y k h2
  · rw [f3 c y k x h0 h1 h3]; exact bC c y k x h2
  · have := f4 v v0 v1
    rw [bC 6 p 0 v (fun z => absurd z.1 (by decide))] at this
    exact this
  · rw [f5 c i k (fun z => h1 ⟨z.1, z.2.1, Or.inr ⟨by have := z.2.2.1; omega, z.2.2.2⟩⟩) h2]
    exact m2 c i k h1 h2
  · rw [f6 c i k x (fun z => h1 ⟨z.1, z.2.1, Or.inr z.2.2⟩) h2]
    exact bM c i k x (fun z => h1 ⟨z.1, z.2.1, Or.inl z.2.2⟩)
  · rw [f3 10 0 5 jx hK10 (fun z => absurd z.1 (by decide)) (fun z => absurd z.1 (by decide))]; exact s5 jx
  · rw [← em_e (B := B) (B' := B2) (fun v => bC 6 p 0 v (fun z => absurd z.1 (by decide)))]; exact f8
  · rw [f5 14 0 3 (by first | decide | omega) (fun z => absurd z.1 (by decide)), ← hFm2]; simp [zup3_v]
  · rcases f9 with z | z
    · rw [z, F6k 1, d1]; decide
    · exact z
  · rcases res with ⟨r0, L, V, a, b⟩ | res
    · exact Or.inl ⟨r0, N, L, V, a, b⟩
    · exact Or.inr res
end
