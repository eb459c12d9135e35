section
section
/-! ===== a text is parsed, on both sides ===== -/
theorem CUR_0 {F : zF} {B Bm : zB} {N : Int} (hT : TK B Bm N) (hx : F 10 0 8 = 0) : CUR (advF F B) B Bm N 0 := by
  obtain ⟨n0, n1, hT⟩ := hT
  obtain ⟨a1, a2, a3, a4, a5, a6, a7, a8, a9, a10, a11⟩ := hT 0 (by first | decide | omega) (by first | decide | omega)
  unfold CUR advF
  rw [hx]
  by_cases e : B 10 0 5 0 = 2
  · have e' : Bm 14 0 7 0 = 2 := by omega
    obtain ⟨b1, b2, b3, b4, b5⟩ := a5 e'
    have n : ¬ (0 : Int) = N := fun z => by have := a4.mpr z; omega
    rw [if_pos e, if_neg n]
    simp only [zup3_v]
    have d1 : zdv (B 10 0 7 0) 8 = Bm 14 0 9 0 := by rw [zdv_e (by first | decide | omega) (by first | decide | omega) (by decide) (by decide)]; omega
    have d2 : zrm (B 10 0 7 0) 8 - 2 = Bm 14 0 10 0 := by rw [zrm_e (by first | decide | omega) (by first | decide | omega) (by decide) (by decide)]; omega
    refine ⟨(by first | decide | omega), ?_, ?_, ?_, fun _ => ⟨?_, ?_⟩, ?_⟩
    · simpa using a1
    · simpa using a2
    · simp
    · simpa using d1
    · simpa using d2
    · simp
  · have e' : ¬ Bm 14 0 7 0 = 2 := by omega
    rw [if_neg e]
    simp only [zup3_v]
    refine ⟨(by first | decide | omega), ?_, ?_, ?_, fun z => absurd z e', ?_⟩
    · simpa using a1
    · simpa using a2
    · simp
    · simp
      by_cases q : (0 : Int) = N
      · rw [if_pos q, if_pos (by have := a4.mpr q; omega)]; exact q
      · rw [if_neg q, if_neg]
        intro z
        exact q (a4.mp (by first | decide | omega))
/-- the frames of parsing -/
def PF (K : zK) (p w : Int) (F : zF) (B : zB) (Fm : zF) (Bm : zB) (K' : zK) (F' : zF) (B' : zB) (Fm' : zF) (Bm' : zB) : Prop := Kle K K' ∧ (∀ c y k, y < K.2 c → ¬ (c = 10 ∧ y = 0) → ¬ (c = 3 ∧ y = 0 ∧ k ≠ 11) → ¬ (c = 6 ∧ y = p ∧ 1 ≤ k ∧ k ≤ 6) → ¬ (c = 4 ∧ ∃ v, 0 ≤ v ∧ v < 4 ∧ y = B 6 p 0 v) → F' c y k = F c y k) ∧ (∀ c y k x, y < K.2 c → ¬ (c = 3 ∧ y = 0) → ¬ (c = 10 ∧ y = 0) → ¬ (c = 6 ∧ y = p ∧ k = 0) → B' c y k x = B c y k x) ∧ (∀ v, 0 ≤ v → v < 4 → B' 6 p 0 v = B 6 p 0 v ∨ (B 6 p 0 v < 0 ∧ K.2 4 ≤ B' 6 p 0 v)) ∧ (∀ c i k, ¬ (c = 14 ∧ i = 0 ∧ (k = 3 ∨ 12 ≤ k ∧ k ≤ 27)) → ¬ (c = 13 ∧ i = w ∧ 1 ≤ k ∧ k ≤ 6) → Fm' c i k = Fm c i k) ∧ (∀ c i k x, ¬ (c = 14 ∧ i = 0 ∧ (7 ≤ k ∧ k ≤ 11 ∨ 25 ≤ k ∧ k ≤ 34)) → ¬ (c = 13 ∧ i = w ∧ 8 ≤ k ∧ k ≤ 11) → Bm' c i k x = Bm c i k x) ∧ (∀ j, r32 (B' 10 0 5 j)) ∧ (∀ q s, K.2 4 ≤ q → q < K'.2 4 → r32 (B' 4 q 12 s)) ∧ ((∀ c, ¬ (c = 1 ∨ c = 4) → K'.2 c = K.2 c) ∧ K'.2 1 = K.2 1 + 200 * (K'.2 4 - K.2 4) ∧ K'.2 4 + em B' p = K.2 4 + em B p) ∧ Fm' 14 0 3 = 0 ∧ (0 ≤ F' 6 p 1 ∧ F' 6 p 1 ≤ 4)
/-- what a text comes to: read, or the same fault -/
def RPO (K : zK) (Km : Nat) (p w : Int) (F : zF) (B : zB) (Fm : zF) (Bm : zB) (r : Int) (F' : zF) (B' : zB) (K' : zK) (Fm' : zF) (Bm' : zB) : Prop := PF K p w F B Fm Bm K' F' B' Fm' Bm' ∧ GS K' B' ∧ ((r = 0 ∧ ∃ N L V, 1 ≤ V ∧ VI K' Km N L V N p w F' B' Fm' Bm') ∨ ((r = Fm' 14 0 17 + 16 * Fm' 14 0 18 ∧ 0 ≤ Fm' 14 0 18 ∧ Fm' 14 0 18 ≤ 3000) ∧ bad Fm'))
theorem P_parse {K : zK} {Km : Nat} {n p w : Int} {t : Int → Int} {F : zF} {B : zB} {Fm : zF} {Bm : zB} (hK : 3002 ≤ K.1) (hKm : 3002 ≤ Km) (hK0 : 0 < K.2 0) (hK3 : 0 < K.2 3) (hK10 : 0 < K.2 10) (e11 : F 3 0 11 = 0) (hn : F 0 0 1 = n) (n0 : 0 ≤ n) (n2 : n ≤ 3000) (hb : ∀ y, 0 ≤ t y ∧ t y < 256) (ht : B 0 0 0 = t) (h5 : ∀ j, r32 (B 10 0 5 j)) (hn' : Fm 14 0 3 = n) (ht' : tmB Bm = t) (hW : MW Bm) (hGS : GS K B) (hp : 0 ≤ p ∧ p < K.2 6) (hw : 0 ≤ w ∧ w < 3) (h6 : Fm 14 0 6 = w) (d1 : F 6 p 1 = 0) (d2 : F 6 p 2 = 0) (d3 : F 6 p 3 = 0) (d4 : F 6 p 4 = 4) (d5 : F 6 p 5 = 4) (d6 : F 6 p 6 = 120) : zPm (f_Parser_parse K 0 0 p F B) (zbind (f_M_cut Km Fm Bm) (fun _ F1 B1 => f_M_text Km (zup3 F1 14 0 3 0) B1)) (fun r F' B' K' _ Fm' Bm' => RPO K Km p w F B Fm Bm r F' B' K' Fm' Bm') := by
  unfold f_Parser_parse f_M_text
  rw [if_pos ⟨Int.le_refl _, hK3⟩, e11, if_pos ⟨Int.le_refl _, hK10⟩]
  generalize hF1 : zup3 (zup3 (zup3 (zup3 (zup3 (zup3 F 3 0 14 0) 3 0 15 0) 3 0 16 0) 3 0 17 0) 3 0 18 0) 3 0 21 0 = F1
  have g1 : ∀ c y k, ¬ (c = 3 ∧ y = 0 ∧ k ≠ 11) → F1 c y k = F c y k := fun c y k h => by
    rw [← hF1]
    simp only [zup3_v]
    rw [if_neg (fun z => h ⟨z.1, z.2.1, by have := z.2.2; omega⟩), if_neg (fun z => h ⟨z.1, z.2.1, by have := z.2.2; omega⟩), if_neg (fun z => h ⟨z.1, z.2.1, by have := z.2.2; omega⟩), if_neg (fun z => h ⟨z.1, z.2.1, by have := z.2.2; omega⟩), if_neg (fun z => h ⟨z.1, z.2.1, by have := z.2.2; omega⟩), if_neg (fun z => h ⟨z.1, z.2.1, by have := z.2.2; omega⟩)]
  have c14 : F1 3 0 14 = 0 := by rw [← hF1]; simp [zup3_v]
  have c15 : F1 3 0 15 = 0 := by rw [← hF1]; simp [zup3_v]
  have c16 : F1 3 0 16 = 0 := by rw [← hF1]; simp [zup3_v]
  have c17 : F1 3 0 17 = 0 := by rw [← hF1]; simp [zup3_v]
  have c18 : F1 3 0 18 = 0 := by rw [← hF1]; simp [zup3_v]
  have c21 : F1 3 0 21 = 0 := by rw [← hF1]; simp [zup3_v]
  obtain ⟨r2, F2, B2, s1, s2, s3, s4, s5⟩ := C_start (K := K) (F := F1) (B := B) (t := t) (n := n) hK hK0 hK10 (by rw [g1 0 0 1 (fun z => absurd z.1 (by decide))]; exact hn) n0 n2 hb ht h5
  obtain ⟨r3, Fm1, Bm1, u1, u2, u3, u4⟩ := L_cut (K := Km) (F := Fm) (B := Bm) (t := t) (n := n) hKm hn' n0 n2 ht'
  rw [s1, u1]
  simp only [zbN_s, zb_s]
  have hT := TK_of hb n0 n2 s3 u3
  generalize hN : ((lexF t n 0).length : Int) = N at *
  have e6 : (zup3 Fm1 14 0 3 0) 14 0 6 = w := by rw [u2]; simp [zup3_v]; exact h6
  rw [e6, if_pos hw]
  generalize hFm2 : zup3 (zup3 (zup3 (zup3 (zup3 (zup3 (zup3 (zup3 (zup3 (zup3 (zup3 (zup3 (zup3 (zup3 Fm1 14 0 3 0) 14 0 16 0) 14 0 17 0) 14 0 19 0) 14 0 27 0) 14 0 22 0) 14 0 23 0) 14 0 24 0) 13 w 1 0) 13 w 2 0) 13 w 3 0) 13 w 4 4) 13 w 5 4) 13 w 6 120 = Fm2
  have m2 : ∀ c i k, ¬ (c = 14 ∧ i = 0 ∧ (k = 3 ∨ 12 ≤ k ∧ k ≤ 27)) → ¬ (c = 13 ∧ i = w ∧ 1 ≤ k ∧ k ≤ 6) → Fm2 c i k = Fm c i k := fun c i k h1 h2 => by
    rw [← hFm2]
    simp only [zup3_v]
    have n13 : ∀ x, 1 ≤ x → x ≤ 6 → ¬ (c = 13 ∧ i = w ∧ k = x) := fun x a b z => h2 ⟨z.1, z.2.1, (by first | decide | omega), (by first | decide | omega)⟩
    have n14 : ∀ x, (x = 3 ∨ 12 ≤ x ∧ x ≤ 27) → ¬ (c = 14 ∧ i = 0 ∧ k = x) := fun x a z => h1 ⟨z.1, z.2.1, (by first | decide | omega)⟩
    rw [if_neg (n13 6 (by decide) (by decide)), if_neg (n13 5 (by decide) (by decide)), if_neg (n13 4 (by decide) (by decide)), if_neg (n13 3 (by decide) (by decide)), if_neg (n13 2 (by decide) (by decide)), if_neg (n13 1 (by decide) (by decide)), if_neg (n14 24 (by decide)), if_neg (n14 23 (by decide)), if_neg (n14 22 (by decide)), if_neg (n14 27 (by decide)), if_neg (n14 19 (by decide)), if_neg (n14 17 (by decide)), if_neg (n14 16 (by decide)), if_neg (n14 3 (by decide)), u2, zup3_v, if_neg (n14 12 (by decide))]
  have v6 : Fm2 14 0 6 = w := by rw [m2 14 0 6 (by decide) (fun z => absurd z.1 (by decide))]; exact h6
  have v16 : Fm2 14 0 16 = 0 := by rw [← hFm2]; simp [zup3_v]
  have v17 : Fm2 14 0 17 = 0 := by rw [← hFm2]; simp [zup3_v]
  have v19 : Fm2 14 0 19 = 0 := by rw [← hFm2]; simp [zup3_v]
  have v27 : Fm2 14 0 27 = 0 := by rw [← hFm2]; simp [zup3_v]
  have v22 : Fm2 14 0 22 = 0 := by rw [← hFm2]; simp [zup3_v]
  have v23 : Fm2 14 0 23 = 0 := by rw [← hFm2]; simp [zup3_v]
  have v24 : Fm2 14 0 24 = 0 := by rw [← hFm2]; simp [zup3_v]
  have x1 : Fm2 13 w 1 = 0 := by rw [← hFm2]; simp [zup3_v]
  have x2 : Fm2 13 w 2 = 0 := by rw [← hFm2]; simp [zup3_v]
  have x3 : Fm2 13 w 3 = 0 := by rw [← hFm2]; simp [zup3_v]
  have x4 : Fm2 13 w 4 = 4 := by rw [← hFm2]; simp [zup3_v]
  have x5 : Fm2 13 w 5 = 4 := by rw [← hFm2]; simp [zup3_v]
  have x6 : Fm2 13 w 6 = 120 := by rw [← hFm2]; simp [zup3_v]
  -- the class's world behind its tokens
  have gC : ∀ c y k, ¬ (c = 10 ∧ y = 0) → F2 c y k = F1 c y k := fun c y k h => by
    rw [s2, advF_o h, zup3_v, if_neg (fun z => h ⟨z.1, z.2.1⟩)]
  have F3k : ∀ k, F2 3 0 k = F1 3 0 k := fun k => gC 3 0 k (fun z => absurd z.1 (by decide))
  have F6k : ∀ k, F2 6 p k = F 6 p k := fun k => by rw [gC 6 p k (fun z => absurd z.1 (by decide)), g1 6 p k (fun z => absurd z.1 (by decide))]
  have bC : ∀ c y k x, ¬ (c = 10 ∧ y = 0) → B2 c y k x = B c y k x := fun c y k x h => s4 c y k x (fun z => h ⟨z.1, z.2.1⟩)
  have bM : ∀ c i k x, ¬ (c = 14 ∧ i = 0 ∧ 7 ≤ k ∧ k ≤ 11) → Bm1 c i k x = Bm c i k x := fun c i k x h => u4 c i k x (fun z => h ⟨z.1, z.2.1, by have := z.2.2.1; simp at this; omega, by have := z.2.2.1; simp at this; omega⟩)
  have hW' : MW Bm1 := by
    unfold MW at *
    have r : ∀ k, 12 ≤ k → Bm1 14 0 k = Bm 14 0 k := fun k hk => by funext y; exact bM 14 0 k y (fun z => by have := z.2.2.2; omega)
    rw [r 13 (by decide), r 14 (by decide), r 15 (by decide)]; exact hW
  have hE : EV K Km N B2 Bm1 := ⟨hT, hW', s5, hK3, hK10, hK, hKm⟩
  have t0 := hT.2.2 0 (by first | decide | omega) hT.1
  have hS : PS N 0 F2 B2 Fm2 Bm1 := by
    refine ⟨?_, ?_, v16, v17, ?_, ?_, Or.inl ?_, ?_⟩
    · rw [F3k, g1 3 0 11 (fun z => z.2.2 rfl)]; exact e11
    · rw [s2]; exact CUR_0 hT (by simp [zup3_v])
    · rw [F3k]; exact c21
    · rw [F3k, c18, v19]; decide
    · rw [F3k]; exact c18
    · rw [F3k, c15]; have := t0.2.2.2.2.2.2.2.2.2.1; omega
  have hHP : HP K p w F2 Fm2 := by
    unfold HP
    rw [F6k, F6k, F6k, F6k, F6k, F3k, d2, d3, d4, d5, d6, c17, v6, v22, v23, v24, x2, x3, x4, x5, x6]
    refine ⟨hp, hw, rfl, by decide, by decide, by decide, by decide, by decide, by decide, by decide, by decide, by decide⟩
  have hGS2 : GS K B2 := GS_B hGS (fun y v _ _ => bC 6 y 0 v (fun z => absurd z.1 (by decide))) (fun y v _ _ => bC 4 y 5 v (fun z => absurd z.1 (by decide)))
  have hVI : VI K Km N 0 0 0 p w F2 B2 Fm2 Bm1 := by
    refine ⟨⟨hE, hS, hHP, ⟨by rw [F3k]; exact c16, v27, by decide, fun q q0 q1 => (by first | decide | omega)⟩, by rw [F3k, c14]; decide, by rw [F3k, c14]; decide, by rw [F3k]; exact c18, fun q q0 q1 => (by first | decide | omega)⟩, hGS2, by rw [F6k]; exact d1, x1, by decide, fun v v0 v1 => (by first | decide | omega)⟩
  refine zPm_m (P_hloop (q := 9) (n := K.1) (m := Km) (L := 0) (l := 0) (j := 0) (by first | decide | omega) (by first | decide | omega) (by first | decide | omega) hVI (by first | decide | omega) VF_r) (fun r F' B' K' r' Fm' Bm' hh => ?_)
  obtain ⟨⟨f1, f2, f3, f4, f5, f6, f7, f8, f9⟩, gs, res⟩ := hh
  refine ⟨⟨f1, fun c y k h0 h1 h2 h3 h4 => ?_, fun c y k x h0 h1 h2 h3 => ?_, fun v v0 v1 => ?_, fun c i k h1 h2 => ?_, fun c i k x h1 h2 => ?_, fun jx => ?_, f7, ?_, ?_, ?_⟩, gs, ?_⟩
  · rw [f2 c y k h0 h1 h2 h3 (fun z => h4 ⟨z.1, by obtain ⟨v, a, b, e⟩ := z.2; exact ⟨v, a, b, by rw [e]; exact bC 6 p 0 v (fun z => absurd z.1 (by decide))⟩⟩), gC c y k h1]
    exact g1 c y k h2
  · rw [f3 c y k x h0 h1 h3]; exact bC c y k x h2
  · have := f4 v v0 v1
    rw [bC 6 p 0 v (fun z => absurd z.1 (by decide))] at this
    exact this
  · rw [f5 c i k (fun z => h1 ⟨z.1, z.2.1, Or.inr ⟨by have := z.2.2.1; omega, z.2.2.2⟩⟩) h2]
    exact m2 c i k h1 h2
  · rw [f6 c i k x (fun z => h1 ⟨z.1, z.2.1, Or.inr z.2.2⟩) h2]
    exact bM c i k x (fun z => h1 ⟨z.1, z.2.1, Or.inl z.2.2⟩)
  · rw [f3 10 0 5 jx hK10 (fun z => absurd z.1 (by decide)) (fun z => absurd z.1 (by decide))]; exact s5 jx
  · rw [← em_e (B := B) (B' := B2) (fun v => bC 6 p 0 v (fun z => absurd z.1 (by decide)))]; exact f8
  · rw [f5 14 0 3 (by first | decide | omega) (fun z => absurd z.1 (by decide)), ← hFm2]; simp [zup3_v]
  · rcases f9 with z | z
    · rw [z, F6k 1, d1]; decide
    · exact z
  · rcases res with ⟨r0, L, V, a, b⟩ | res
    · exact Or.inl ⟨r0, N, L, V, a, b⟩
    · exact Or.inr res
end
end
section
section
/-! ===== the reference's fractions are the class's places ===== -/
theorem lI_n0 {b : Int} (hb : 0 < b) (h : r64 b) : ¬ lI b = 0 := by
  intro z
  have e : (lI b).toInt = b := lI_to h
  rw [z] at e
  have : (0 : Int64).toInt = 0 := by decide
  omega
theorem zldv_e {a b : Int} (h0 : 0 ≤ a) (ha : a < 9223372036854775808) (hb : 0 < b) (hb2 : b < 9223372036854775808) : zldv a b = a / b := by
  have ra : r64 a := ⟨(by first | decide | omega), ha⟩
  have rb : r64 b := ⟨(by first | decide | omega), hb2⟩
  have hq : a / b ≤ a := Int.ediv_le_self b h0
  have hq0 : 0 ≤ a / b := Int.ediv_nonneg h0 (by first | decide | omega)
  unfold zldv
  rw [Int64.toInt_div, lI_to ra, lI_to rb, Int.tdiv_eq_ediv_of_nonneg h0]
  rw [Int.bmod_eq_of_le] <;> omega
theorem zlrm_e {a b : Int} (h0 : 0 ≤ a) (ha : a < 9223372036854775808) (hb : 0 < b) (hb2 : b < 9223372036854775808) : zlrm a b = a % b := by
  have ra : r64 a := ⟨(by first | decide | omega), ha⟩
  have rb : r64 b := ⟨(by first | decide | omega), hb2⟩
  have hm0 : 0 ≤ a % b := Int.emod_nonneg a (by first | decide | omega)
  have hm1 : a % b < b := Int.emod_lt_of_pos a hb
  have hd : lI a / lI b = lI (a / b) := by
    have e := zldv_e h0 ha hb hb2
    unfold zldv at e
    rw [← e, lI_of]
  unfold zlrm
  rw [hd, lI_mul, lI_sub, show a - a / b * b = a % b by rw [Int.emod_def, Int.mul_comm]]
  exact lI_to ⟨(by first | decide | omega), (by first | decide | omega)⟩
def gc (a b : Int) : Int := (Nat.gcd a.toNat b.toNat : Int)
theorem gc_pos {a b : Int} (hb : 0 < b) : 0 < gc a b := by
  unfold gc
  have := Nat.gcd_pos_of_pos_right a.toNat (show 0 < b.toNat by omega)
  omega
theorem gc_dl {a b : Int} (ha : 0 ≤ a) : ∃ x, a = gc a b * x := by
  obtain ⟨x, hx⟩ := Nat.gcd_dvd_left a.toNat b.toNat
  exact ⟨x, by unfold gc; omega⟩
theorem gc_dr {a b : Int} (hb : 0 ≤ b) : ∃ x, b = gc a b * x := by
  obtain ⟨x, hx⟩ := Nat.gcd_dvd_right a.toNat b.toNat
  exact ⟨x, by unfold gc; omega⟩
theorem gc_le {a b : Int} (hb : 0 < b) : gc a b ≤ b := by
  unfold gc
  have := Nat.gcd_le_right a.toNat (show 0 < b.toNat by omega)
  omega
theorem L_gcd6 {K : Nat} {F : zF} {B : zB} : ∀ {n : Nat} {x y : Int}, 0 ≤ x → x < 9223372036854775808 → 0 ≤ y → y < 9223372036854775808 → y < n → f_M_gcd_6 K n y x F B = some (gc x y, F, B) := by
  intro n
  induction n with
  | zero => intro x y _ _ _ _ h; omega
  | succ n ih =>
    intro x y x0 x1 y0 y1 h
    unfold f_M_gcd_6
    rw [if_pos (by first | decide | omega)]
    by_cases e : y = 0
    · rw [if_pos (zcmp_0.mpr e), e]
      unfold gc
      rw [show (0 : Int).toNat = 0 from rfl, Nat.gcd_zero_right]
      rw [show ((x.toNat : Nat) : Int) = x by omega]
    · rw [if_neg (fun z => e (zcmp_0.mp z)), if_pos (lI_n0 (by first | decide | omega) (by first | decide | omega)), zlrm_e x0 x1 (by first | decide | omega) y1]
      have m0 : 0 ≤ x % y := Int.emod_nonneg x e
      have m1 : x % y < y := Int.emod_lt_of_pos x (by first | decide | omega)
      rw [ih (by first | decide | omega) (by first | decide | omega) m0 (by first | decide | omega) (by first | decide | omega)]
      have g : gc y (x % y) = gc x y := by
        unfold gc
        have e2 : (x % y).toNat = x.toNat % y.toNat := by
          apply Int.ofNat_inj.mp
          rw [Int.natCast_emod, show ((x.toNat : Nat) : Int) = x by omega, show ((y.toNat : Nat) : Int) = y by omega]
          omega
        rw [e2, Nat.gcd_comm y.toNat, ← Nat.gcd_rec, Nat.gcd_comm]
      rw [g]
theorem L_gcd {K : Nat} {F : zF} {B : zB} {x y : Int} (x0 : 0 ≤ x) (x1 : x < 9223372036854775808) (y0 : 0 ≤ y) (y1 : y < 9223372036854775808) (h : y < K) : f_M_gcd K x y F B = some (gc x y, F, B) := L_gcd6 x0 x1 y0 y1 h
theorem L_is {K : Nat} {F : zF} {B : zB} {u d : Int} (u0 : 0 ≤ u) (u1 : u < 9223372036854775808) (d0 : 0 < d) (d1 : d < 9223372036854775808) (h : d < K) : f_M_is K u d F B = some (0, zup3 (zup3 F 14 0 0 (u / gc u d)) 14 0 1 (d / gc u d), B) := by
  have g := gc_pos (a := u) d0
  have gl := gc_le (a := u) d0
  unfold f_M_is
  rw [L_gcd u0 u1 (by first | decide | omega) d1 h]
  simp only [zb_s]
  rw [if_pos (lI_n0 g (by first | decide | omega)), zldv_e u0 u1 g (by first | decide | omega), zldv_e (by first | decide | omega) d1 g (by first | decide | omega)]
/-- a fraction u/d that is the place p of W: reduced it is p's -/
theorem red_u {W p u d : Int} (hW : 0 < W) (p0 : 0 ≤ p) (u0 : 0 ≤ u) (d0 : 0 < d) (h : u * W = p * d) : u / gc u d = p / gc p W ∧ d / gc u d = W / gc p W := by
  have g1 := gc_pos (a := u) d0
  have g2 := gc_pos (a := p) hW
  have key : W * gc u d = d * gc p W := by
    have n : Nat.gcd (W.toNat * u.toNat) (W.toNat * d.toNat) = Nat.gcd (d.toNat * p.toNat) (d.toNat * W.toNat) := by
      have e1 : W.toNat * u.toNat = d.toNat * p.toNat := by
        apply Int.ofNat_inj.mp
        rw [Int.natCast_mul, Int.natCast_mul, show ((W.toNat : Nat) : Int) = W by omega, show ((u.toNat : Nat) : Int) = u by omega, show ((d.toNat : Nat) : Int) = d by omega, show ((p.toNat : Nat) : Int) = p by omega, Int.mul_comm W u, h, Int.mul_comm]
      rw [e1, Nat.mul_comm W.toNat d.toNat]
    rw [Nat.gcd_mul_left, Nat.gcd_mul_left] at n
    have n' : ((W.toNat * Nat.gcd u.toNat d.toNat : Nat) : Int) = ((d.toNat * Nat.gcd p.toNat W.toNat : Nat) : Int) := by rw [n]
    rw [Int.natCast_mul, Int.natCast_mul, show ((W.toNat : Nat) : Int) = W by omega, show ((d.toNat : Nat) : Int) = d by omega] at n'
    exact n'
  obtain ⟨u', hu⟩ := gc_dl (a := u) (b := d) u0
  obtain ⟨d', hd⟩ := gc_dr (a := u) (b := d) (Int.le_of_lt d0)
  obtain ⟨p', hp⟩ := gc_dl (a := p) (b := W) p0
  obtain ⟨W', hw⟩ := gc_dr (a := p) (b := W) (Int.le_of_lt hW)
  generalize gc u d = a at *
  generalize gc p W = b at *
  have ab : 0 < a * b := Int.mul_pos g1 g2
  have e1 : d' = W' := by
    apply Int.eq_of_mul_eq_mul_left (Int.ne_of_gt ab)
    calc a * b * d' = (a * d') * b := by rw [Int.mul_assoc, Int.mul_comm b d', ← Int.mul_assoc]
      _ = d * b := by rw [← hd]
      _ = W * a := key.symm
      _ = (b * W') * a := by rw [← hw]
      _ = a * b * W' := by rw [Int.mul_comm, ← Int.mul_assoc]
  have Wp : 0 < W' := by
    rcases Int.lt_or_le 0 W' with z | z
    · exact z
    · have := Int.mul_nonpos_of_nonneg_of_nonpos (Int.le_of_lt g2) z
      omega
  have e2 : u' = p' := by
    have h2 : (a * u') * (b * W') = (b * p') * (a * d') := by rw [← hu, ← hw, ← hp, ← hd]; exact h
    rw [e1] at h2
    apply Int.eq_of_mul_eq_mul_left (Int.ne_of_gt (Int.mul_pos ab Wp))
    calc a * b * W' * u' = (a * u') * (b * W') := by ac_rfl
      _ = (b * p') * (a * W') := h2
      _ = a * b * W' * p' := by ac_rfl
  refine ⟨?_, ?_⟩
  · rw [hu, hp, Int.mul_ediv_cancel_left _ (Int.ne_of_gt g1), Int.mul_ediv_cancel_left _ (Int.ne_of_gt g2), e2]
  · rw [hd, hw, Int.mul_ediv_cancel_left _ (Int.ne_of_gt g1), Int.mul_ediv_cancel_left _ (Int.ne_of_gt g2), e1]
end
end
section
section
/-! ===== sums, differences, comparisons of fractions as places ===== -/
def WW : Int := 812851200
def nu (p : Int) : Int := p / gc p WW
def de (p : Int) : Int := WW / gc p WW
/-- a/b is the place p; b goes into a whole -/
def FR (a b p : Int) : Prop := 0 < b ∧ (∃ x, WW = b * x) ∧ 0 ≤ a ∧ a * WW = p * b
theorem FR_r {p : Int} (h : 0 ≤ p) : FR (nu p) (de p) p := by
  have hW : (0 : Int) < WW := by decide
  have g := gc_pos (a := p) hW
  obtain ⟨p', hp⟩ := gc_dl (a := p) (b := WW) h
  obtain ⟨W', hw⟩ := gc_dr (a := p) (b := WW) (Int.le_of_lt hW)
  have e1 : nu p = p' := by unfold nu; rw [show p / gc p WW = gc p WW * p' / gc p WW by rw [← hp], Int.mul_ediv_cancel_left _ (Int.ne_of_gt g)]
  have e2 : de p = W' := by unfold de; rw [show WW / gc p WW = gc p WW * W' / gc p WW by rw [← hw], Int.mul_ediv_cancel_left _ (Int.ne_of_gt g)]
  have Wp : 0 < W' := by
    rcases Int.lt_or_le 0 W' with z | z
    · exact z
    · have := Int.mul_nonpos_of_nonneg_of_nonpos (Int.le_of_lt g) z
      omega
  have pp : 0 ≤ p' := by
    rcases Int.lt_or_le p' 0 with z | z
    · have := Int.mul_neg_of_pos_of_neg g z
      omega
    · exact z
  refine ⟨by rw [e2]; exact Wp, ⟨gc p WW, by rw [e2, Int.mul_comm]; exact hw⟩, by rw [e1]; exact pp, ?_⟩
  rw [e1, e2]
  calc p' * WW = p' * (gc p WW * W') := by rw [← hw]
    _ = (gc p WW * p') * W' := by ac_rfl
    _ = p * W' := by rw [← hp]
theorem FR_b {a b p : Int} (h : FR a b p) : b ≤ WW ∧ 0 ≤ p ∧ a ≤ p := by
  obtain ⟨b0, ⟨x, hx⟩, a0, e⟩ := h
  have hW : (0 : Int) < WW := by decide
  have x0 : 0 < x := by
    rcases Int.lt_or_le 0 x with z | z
    · exact z
    · have := Int.mul_nonpos_of_nonneg_of_nonpos (Int.le_of_lt b0) z
      omega
  have bW : b ≤ WW := by
    have := Int.mul_le_mul_of_nonneg_left (show (1 : Int) ≤ x by omega) (Int.le_of_lt b0)
    omega
  have p0 : 0 ≤ p := by
    rcases Int.lt_or_le p 0 with z | z
    · have h1 := Int.mul_neg_of_neg_of_pos z b0
      have h2 := Int.mul_nonneg a0 (Int.le_of_lt hW)
      omega
    · exact z
  refine ⟨bW, p0, ?_⟩
  have h1 : a * WW ≤ p * WW := by rw [e]; exact Int.mul_le_mul_of_nonneg_left bW p0
  exact Int.le_of_mul_le_mul_right h1 hW
/-- the common denominator of two such fractions -/
theorem lc_of {b d : Int} (hb : 0 < b) (hd : 0 < d) (xb : ∃ x, WW = b * x) (xd : ∃ x, WW = d * x) : 0 < gc b d ∧ gc b d ≤ d ∧ 0 ≤ d / gc b d ∧ 0 < b / gc b d ∧ b / gc b d * d = b * (d / gc b d) ∧ 0 < b / gc b d * d ∧ (∃ x, WW = b / gc b d * d * x) ∧ b / gc b d ≤ b ∧ d / gc b d ≤ d := by
  have hW : (0 : Int) < WW := by decide
  have g := gc_pos (a := b) hd
  have gl := gc_le (a := b) hd
  obtain ⟨b', eb⟩ := gc_dl (a := b) (b := d) (Int.le_of_lt hb)
  obtain ⟨d', ed⟩ := gc_dr (a := b) (b := d) (Int.le_of_lt hd)
  have q1 : b / gc b d = b' := by rw [show b / gc b d = gc b d * b' / gc b d by rw [← eb], Int.mul_ediv_cancel_left _ (Int.ne_of_gt g)]
  have q2 : d / gc b d = d' := by rw [show d / gc b d = gc b d * d' / gc b d by rw [← ed], Int.mul_ediv_cancel_left _ (Int.ne_of_gt g)]
  have b0 : 0 < b' := by
    rcases Int.lt_or_le 0 b' with z | z
    · exact z
    · have := Int.mul_nonpos_of_nonneg_of_nonpos (Int.le_of_lt g) z
      omega
  have d0 : 0 < d' := by
    rcases Int.lt_or_le 0 d' with z | z
    · exact z
    · have := Int.mul_nonpos_of_nonneg_of_nonpos (Int.le_of_lt g) z
      omega
  have l1 : b' ≤ b := by
    have := Int.mul_le_mul_of_nonneg_right (show (1 : Int) ≤ gc b d by omega) (Int.le_of_lt b0)
    omega
  have l2 : d' ≤ d := by
    have := Int.mul_le_mul_of_nonneg_right (show (1 : Int) ≤ gc b d by omega) (Int.le_of_lt d0)
    omega
  have lcm : ∃ x, WW = b' * d * x := by
    obtain ⟨x, hx⟩ := xb
    obtain ⟨y, hy⟩ := xd
    have hx0 : 0 < x := by
      rcases Int.lt_or_le 0 x with z | z
      · exact z
      · have := Int.mul_nonpos_of_nonneg_of_nonpos (Int.le_of_lt hb) z
        omega
    have hy0 : 0 < y := by
      rcases Int.lt_or_le 0 y with z | z
      · exact z
      · have := Int.mul_nonpos_of_nonneg_of_nonpos (Int.le_of_lt hd) z
        omega
    have n1 : b.toNat ∣ WW.toNat := ⟨x.toNat, by
      apply Int.ofNat_inj.mp
      rw [Int.natCast_mul, show ((b.toNat : Nat) : Int) = b by omega, show ((x.toNat : Nat) : Int) = x by omega, ← hx]; rfl⟩
    have n2 : d.toNat ∣ WW.toNat := ⟨y.toNat, by
      apply Int.ofNat_inj.mp
      rw [Int.natCast_mul, show ((d.toNat : Nat) : Int) = d by omega, show ((y.toNat : Nat) : Int) = y by omega, ← hy]; rfl⟩
    obtain ⟨z, hz⟩ := Nat.lcm_dvd n1 n2
    refine ⟨z, ?_⟩
    have e : ((Nat.lcm b.toNat d.toNat : Nat) : Int) = b' * d := by
      have gn : Nat.gcd b.toNat d.toNat * b'.toNat = b.toNat := by
        apply Int.ofNat_inj.mp
        rw [Int.natCast_mul, show ((b'.toNat : Nat) : Int) = b' by omega]
        show gc b d * b' = _
        omega
      have gp : 0 < Nat.gcd b.toNat d.toNat := Nat.gcd_pos_of_pos_right _ (by first | decide | omega)
      have l : Nat.lcm b.toNat d.toNat = b'.toNat * d.toNat := by
        show b.toNat * d.toNat / Nat.gcd b.toNat d.toNat = _
        rw [show b.toNat * d.toNat = Nat.gcd b.toNat d.toNat * (b'.toNat * d.toNat) by rw [← Nat.mul_assoc, gn]]
        exact Nat.mul_div_cancel_left _ gp
      rw [l, Int.natCast_mul, show ((b'.toNat : Nat) : Int) = b' by omega, show ((d.toNat : Nat) : Int) = d by omega]
    rw [← e, ← Int.natCast_mul, ← hz]
    rfl
  rw [q1, q2]
  refine ⟨g, gl, Int.le_of_lt d0, b0, ?_, Int.mul_pos b0 hd, lcm, l1, l2⟩
  calc b' * d = b' * (gc b d * d') := by rw [← ed]
    _ = (gc b d * b') * d' := by ac_rfl
    _ = b * d' := by rw [← eb]
def fr (F : zF) (p : Int) : zF := zup3 (zup3 F 14 0 0 (nu p)) 14 0 1 (de p)
theorem dv_le {l x : Int} (hl : 0 < l) (h : WW = l * x) : l ≤ WW := by
  have hW : (0 : Int) < WW := by decide
  have x0 : 0 < x := by
    rcases Int.lt_or_le 0 x with z | z
    · exact z
    · have := Int.mul_nonpos_of_nonneg_of_nonpos (Int.le_of_lt hl) z
      omega
  have := Int.mul_le_mul_of_nonneg_left (show (1 : Int) ≤ x by omega) (Int.le_of_lt hl)
  omega
theorem L_isR {K : Nat} {F : zF} {B : zB} {u d p : Int} (hK : 812851200 < K) (h : FR u d p) (hp : p < 4611686018427387904) : f_M_is K u d F B = some (0, fr F p, B) := by
  have b := FR_b h
  obtain ⟨d0, x, u0, e⟩ := h
  have hw : WW = 812851200 := rfl
  rw [L_is u0 (by first | decide | omega) d0 (by first | decide | omega) (by first | decide | omega)]
  obtain ⟨r1, r2⟩ := red_u (W := WW) (by decide) b.2.1 u0 d0 e
  rw [r1, r2]
  rfl
theorem L_plusR {K : Nat} {F : zF} {B : zB} {a b c d p q : Int} (hK : 812851200 < K) (h : FR a b p) (h' : FR c d q) (hp : p + q < 4611686018427387904) : f_M_plus K a b c d F B = some (0, fr F (p + q), B) := by
  have hb := FR_b h
  have hd := FR_b h'
  obtain ⟨b0, xb, a0, e⟩ := h
  obtain ⟨d0, xd, c0, e'⟩ := h'
  obtain ⟨g0, gl, i1, i2, i3, i4, i5, i6, i7⟩ := lc_of b0 d0 xb xd
  have hw : WW = 812851200 := rfl
  unfold f_M_plus
  rw [L_gcd (by first | decide | omega) (by first | decide | omega) (by first | decide | omega) (by first | decide | omega) (by first | decide | omega)]
  simp only [zb_s]
  rw [if_pos (lI_n0 g0 (by first | decide | omega)), zldv_e (by first | decide | omega) (by first | decide | omega) g0 (by first | decide | omega), zldv_e (by first | decide | omega) (by first | decide | omega) g0 (by first | decide | omega)]
  have f : FR (a * (d / gc b d) + c * (b / gc b d)) (b / gc b d * d) (p + q) := by
    refine ⟨i4, i5, ?_, ?_⟩
    · have := Int.mul_nonneg a0 i1
      have := Int.mul_nonneg c0 (Int.le_of_lt i2)
      omega
    · rw [Int.add_mul, Int.add_mul]
      have s1 : a * (d / gc b d) * WW = p * (b / gc b d * d) := by
        calc a * (d / gc b d) * WW = (a * WW) * (d / gc b d) := by ac_rfl
          _ = p * b * (d / gc b d) := by rw [e]
          _ = p * (b * (d / gc b d)) := by ac_rfl
          _ = p * (b / gc b d * d) := by rw [i3]
      have s2 : c * (b / gc b d) * WW = q * (b / gc b d * d) := by
        calc c * (b / gc b d) * WW = (c * WW) * (b / gc b d) := by ac_rfl
          _ = q * d * (b / gc b d) := by rw [e']
          _ = q * (b / gc b d * d) := by ac_rfl
      rw [s1, s2]
  rw [L_isR hK f hp]
  rfl
theorem L_minusR {K : Nat} {F : zF} {B : zB} {a b c d p q : Int} (hK : 812851200 < K) (h : FR a b p) (h' : FR c d q) (hq : q ≤ p) (hp : p < 4611686018427387904) : f_M_minus K a b c d F B = some (0, fr F (p - q), B) := by
  have hb := FR_b h
  have hd := FR_b h'
  obtain ⟨b0, xb, a0, e⟩ := h
  obtain ⟨d0, xd, c0, e'⟩ := h'
  obtain ⟨g0, gl, i1, i2, i3, i4, i5, i6, i7⟩ := lc_of b0 d0 xb xd
  have hw : WW = 812851200 := rfl
  have hW : (0 : Int) < WW := by decide
  unfold f_M_minus
  rw [L_gcd (by first | decide | omega) (by first | decide | omega) (by first | decide | omega) (by first | decide | omega) (by first | decide | omega)]
  simp only [zb_s]
  rw [if_pos (lI_n0 g0 (by first | decide | omega)), zldv_e (by first | decide | omega) (by first | decide | omega) g0 (by first | decide | omega), zldv_e (by first | decide | omega) (by first | decide | omega) g0 (by first | decide | omega)]
  have s1 : a * (d / gc b d) * WW = p * (b / gc b d * d) := by
    calc a * (d / gc b d) * WW = (a * WW) * (d / gc b d) := by ac_rfl
      _ = p * b * (d / gc b d) := by rw [e]
      _ = p * (b * (d / gc b d)) := by ac_rfl
      _ = p * (b / gc b d * d) := by rw [i3]
  have s2 : c * (b / gc b d) * WW = q * (b / gc b d * d) := by
    calc c * (b / gc b d) * WW = (c * WW) * (b / gc b d) := by ac_rfl
      _ = q * d * (b / gc b d) := by rw [e']
      _ = q * (b / gc b d * d) := by ac_rfl
  have f : FR (a * (d / gc b d) - c * (b / gc b d)) (b / gc b d * d) (p - q) := by
    refine ⟨i4, i5, ?_, ?_⟩
    · have le : c * (b / gc b d) * WW ≤ a * (d / gc b d) * WW := by
        rw [s1, s2]; exact Int.mul_le_mul_of_nonneg_right hq (Int.le_of_lt i4)
      have := Int.le_of_mul_le_mul_right le hW
      omega
    · rw [Int.sub_mul, Int.sub_mul, s1, s2]
  rw [L_isR hK f (by first | decide | omega)]
  rfl
theorem L_cmpR {K : Nat} {F : zF} {B : zB} {a b c d p q : Int} (hK : 812851200 < K) (h : FR a b p) (h' : FR c d q) (hp : p < 4611686018427387904) (hq : q < 4611686018427387904) : f_M_compare K a b c d F B = some (if p < q then -1 else if p = q then 0 else 1, F, B) := by
  have hb := FR_b h
  have hd := FR_b h'
  obtain ⟨b0, xb, a0, e⟩ := h
  obtain ⟨d0, xd, c0, e'⟩ := h'
  obtain ⟨g0, gl, i1, i2, i3, i4, ⟨lx, hlx⟩, i6, i7⟩ := lc_of b0 d0 xb xd
  have hw : WW = 812851200 := rfl
  have hW : (0 : Int) < WW := by decide
  have ll := dv_le i4 hlx
  have s1 : a * (d / gc b d) * WW = p * (b / gc b d * d) := by
    calc a * (d / gc b d) * WW = (a * WW) * (d / gc b d) := by ac_rfl
      _ = p * b * (d / gc b d) := by rw [e]
      _ = p * (b * (d / gc b d)) := by ac_rfl
      _ = p * (b / gc b d * d) := by rw [i3]
  have s2 : c * (b / gc b d) * WW = q * (b / gc b d * d) := by
    calc c * (b / gc b d) * WW = (c * WW) * (b / gc b d) := by ac_rfl
      _ = q * d * (b / gc b d) := by rw [e']
      _ = q * (b / gc b d * d) := by ac_rfl
  have x0 := Int.mul_nonneg a0 i1
  have y0 := Int.mul_nonneg c0 (Int.le_of_lt i2)
  have xp : a * (d / gc b d) ≤ p := by
    refine Int.le_of_mul_le_mul_right ?_ hW
    rw [s1]; exact Int.mul_le_mul_of_nonneg_left ll hb.2.1
  have yq : c * (b / gc b d) ≤ q := by
    refine Int.le_of_mul_le_mul_right ?_ hW
    rw [s2]; exact Int.mul_le_mul_of_nonneg_left ll hd.2.1
  unfold f_M_compare f_M_compare_51
  rw [L_gcd (by first | decide | omega) (by first | decide | omega) (by first | decide | omega) (by first | decide | omega) (by first | decide | omega)]
  simp only [zb_s]
  rw [if_pos (lI_n0 g0 (by first | decide | omega)), zldv_e (by first | decide | omega) (by first | decide | omega) g0 (by first | decide | omega), zldv_e (by first | decide | omega) (by first | decide | omega) g0 (by first | decide | omega)]
  generalize hl : b / gc b d * d = l at *
  generalize hX : a * (d / gc b d) = X at *
  generalize hY : c * (b / gc b d) = Y at *
  rw [if_pos (by first | decide | omega), if_pos (by first | decide | omega)]
  rcases Int.lt_trichotomy p q with z | z | z
  · have : X < Y := by
      refine Int.lt_of_mul_lt_mul_right (a := WW) ?_ (Int.le_of_lt hW)
      rw [s1, s2]; exact Int.mul_lt_mul_of_pos_right z i4
    rw [if_neg (by have := zcmp_lt.mpr this; omega), if_pos z]
  · have : X = Y := by
      apply Int.eq_of_mul_eq_mul_right (Int.ne_of_gt hW)
      rw [s1, s2, z]
    have zc := zcmp_0.mpr this
    rw [if_pos (by first | decide | omega), if_pos (by first | decide | omega), if_neg (by first | decide | omega), if_pos z]
  · have : Y < X := by
      refine Int.lt_of_mul_lt_mul_right (a := WW) ?_ (Int.le_of_lt hW)
      rw [s1, s2]; exact Int.mul_lt_mul_of_pos_right z i4
    have zc := zcmp_g.mpr this
    rw [if_pos (by first | decide | omega), if_neg (by first | decide | omega), if_neg (by first | decide | omega), if_neg (by first | decide | omega)]
end
end
section
section
/-! ===== how often a fraction goes into a place ===== -/
theorem div_FR {a b c d p q : Int} (h : a * WW = p * b) (h' : c * WW = q * d) (b0 : 0 < b) (c0 : 0 < c) (d0 : 0 < d) (q0 : 0 < q) : a * d / (b * c) = p / q ∧ (a * d % (b * c) = 0 ↔ p % q = 0) := by
  have hW : (0 : Int) < WW := by decide
  have bd : 0 < b * d := Int.mul_pos b0 d0
  have e1 : a * d * WW = p * (b * d) := by
    calc a * d * WW = (a * WW) * d := by ac_rfl
      _ = p * b * d := by rw [h]
      _ = p * (b * d) := by ac_rfl
  have e2 : b * c * WW = q * (b * d) := by
    calc b * c * WW = (c * WW) * b := by ac_rfl
      _ = q * d * b := by rw [h']
      _ = q * (b * d) := by ac_rfl
  refine ⟨?_, ?_⟩
  · rw [← Int.mul_ediv_mul_of_pos_left (a * d) (b * c) hW, e1, e2, Int.mul_ediv_mul_of_pos_left p q bd]
  · have m : a * d % (b * c) * WW = p % q * (b * d) := by
      rw [Int.mul_comm _ WW, ← Int.mul_emod_mul_of_pos _ _ hW, Int.mul_comm WW, Int.mul_comm WW, e1, e2, Int.mul_comm p, Int.mul_comm q, Int.mul_emod_mul_of_pos _ _ bd, Int.mul_comm]
    constructor
    · intro z
      rw [z, Int.zero_mul] at m
      rcases Int.mul_eq_zero.mp m.symm with w | w
      · exact w
      · omega
    · intro z
      rw [z, Int.zero_mul] at m
      rcases Int.mul_eq_zero.mp m with w | w
      · exact w
      · omega
theorem L_oftR {K : Nat} {F : zF} {B : zB} {a b c d p q : Int} (h : FR a b p) (h' : c * WW = q * d) (c0 : 0 < c) (c1 : c ≤ 100000) (d0 : 0 < d) (d1 : d ≤ 100000) (q0 : 0 < q) (hp : p < 70368744177664) : f_M_often K a b c d F B = some (p / q, F, B) := by
  have hb := FR_b h
  have hw : WW = 812851200 := rfl
  have bc : 0 < b * c := Int.mul_pos h.1 c0
  have bc2 : b * c ≤ 812851200 * 100000 := Int.mul_le_mul (by first | decide | omega) c1 (by first | decide | omega) (by first | decide | omega)
  have ad : 0 ≤ a * d := Int.mul_nonneg h.2.2.1 (by first | decide | omega)
  have ad2 : a * d ≤ 70368744177664 * 100000 := Int.mul_le_mul (by first | decide | omega) d1 (by first | decide | omega) (by first | decide | omega)
  unfold f_M_often
  rw [if_pos (lI_n0 bc (by first | decide | omega)), zldv_e ad (by first | decide | omega) bc (by first | decide | omega), (div_FR h.2.2.2 h' h.1 c0 d0 q0).1]
theorem L_multR {K : Nat} {F : zF} {B : zB} {a b c d p q : Int} (h : FR a b p) (h' : c * WW = q * d) (c0 : 0 < c) (c1 : c ≤ 100000) (d0 : 0 < d) (d1 : d ≤ 100000) (q0 : 0 < q) (hp : p < 70368744177664) : f_M_isMultiple K a b c d F B = some (if p % q = 0 then 1 else 0, F, B) := by
  have hb := FR_b h
  have hw : WW = 812851200 := rfl
  have bc : 0 < b * c := Int.mul_pos h.1 c0
  have bc2 : b * c ≤ 812851200 * 100000 := Int.mul_le_mul (by first | decide | omega) c1 (by first | decide | omega) (by first | decide | omega)
  have ad : 0 ≤ a * d := Int.mul_nonneg h.2.2.1 (by first | decide | omega)
  have ad2 : a * d ≤ 70368744177664 * 100000 := Int.mul_le_mul (by first | decide | omega) d1 (by first | decide | omega) (by first | decide | omega)
  have m0 : 0 ≤ a * d % (b * c) := Int.emod_nonneg _ (by first | decide | omega)
  have m1 : a * d % (b * c) < b * c := Int.emod_lt_of_pos _ bc
  have k := (div_FR h.2.2.2 h' h.1 c0 d0 q0).2
  unfold f_M_isMultiple f_M_isMultiple_19
  rw [if_pos (lI_n0 bc (by first | decide | omega)), zlrm_e ad (by first | decide | omega) bc (by first | decide | omega), if_pos (by first | decide | omega)]
  by_cases z : a * d % (b * c) = 0
  · rw [if_pos (zcmp_0.mpr z), if_pos (by decide), if_pos (k.mp z)]
  · rw [if_neg (fun w => z (zcmp_0.mp w)), if_pos (by decide), if_neg (fun w => z (k.mpr w))]
end
end
section
section
/-! ===== a value times the slows around: both sides ===== -/
def cap (x : Int) : Int := if x ≤ 1024 then x else -1
theorem cap_big {x m : Int} (h : 1024 < x) (hm : 1 ≤ m) : cap (x * m) = -1 := by
  have : x * 1 ≤ x * m := Int.mul_le_mul_of_nonneg_left hm (by first | decide | omega)
  unfold cap
  rw [if_neg (by first | decide | omega)]
theorem pw_1 {P : Int} (h : 1 ≤ P) (j : Nat) : 1 ≤ P ^ j := by
  induction j with
  | zero => rw [Int.pow_zero]; decide
  | succ j ih =>
    rw [Int.pow_succ]
    have : 1 * 1 ≤ P ^ j * P := Int.mul_le_mul ih h (by decide) (by first | decide | omega)
    omega
theorem ml_1 {a b : Int} (h : 1 ≤ a) (h' : 1 ≤ b) : 1 ≤ a * b := by
  have : 1 * 1 ≤ a * b := Int.mul_le_mul h h' (by decide) (by first | decide | omega)
  omega
theorem V265 {K : Nat} {F : zF} {B : zB} {u : Int} (h : r32 u) : f_M_valueOf_265 K u F B = some (cap u, F, B) := by
  unfold f_M_valueOf_265 f_M_valueOf_279 cap
  rw [if_pos h]
  split <;> rfl
theorem V237 {K : Nat} {F : zF} {B : zB} {e : Int} (he : r32 e) : ∀ (j n : Nat) {l u : Int}, 0 ≤ l → l ≤ e → (e - l).toNat = j → j < n → 1 ≤ u → u ≤ 10000 → f_M_valueOf_237 K n l u e F B = some (cap (u * 7 ^ j), F, B) := by
  unfold r32 at he
  intro j
  induction j with
  | zero =>
    intro n l u h0 h1 hj hn u0 u1
    obtain ⟨n, rfl⟩ : ∃ m, n = m + 1 := ⟨n - 1, (by first | decide | omega)⟩
    unfold f_M_valueOf_237
    rw [if_pos (by unfold r32; omega), if_pos he, if_pos (by first | decide | omega), V265 (by unfold r32; omega), Int.pow_zero, Int.mul_one]
  | succ j ih =>
    intro n l u h0 h1 hj hn u0 u1
    obtain ⟨n, rfl⟩ : ∃ m, n = m + 1 := ⟨n - 1, (by first | decide | omega)⟩
    unfold f_M_valueOf_237
    rw [if_pos (by unfold r32; omega), if_pos he, if_neg (by first | decide | omega), if_pos (by unfold r32; omega)]
    by_cases b : 1024 < u
    · rw [if_pos b, V265 (by unfold r32; omega), cap_big b (pw_1 (by decide) _)]
      unfold cap
      rw [if_neg (by first | decide | omega)]
    · rw [if_neg b, ih n (by first | decide | omega) (by first | decide | omega) (by first | decide | omega) (by first | decide | omega) (by first | decide | omega) (by first | decide | omega), Int.pow_succ, Int.mul_comm (7 ^ j), Int.mul_assoc]
theorem V203 {K : Nat} {F : zF} {B : zB} {e s : Int} (hb : B 14 0 51 5 = e) (he : r32 e) (hs : r32 s) (s0 : 0 ≤ s) (hK : s < K) : ∀ (j n : Nat) {l u : Int}, 0 ≤ l → l ≤ e → (e - l).toNat = j → j < n → 1 ≤ u → u ≤ 10000 → f_M_valueOf_203 K n l u s F B = some (cap (u * 5 ^ j * 7 ^ s.toNat), F, B) := by
  have z7 : ∀ {u : Int}, 1 ≤ u → u ≤ 10000 → f_M_valueOf_234 K u s F B = some (cap (u * 7 ^ s.toNat), F, B) := fun {u} a b => by
    unfold f_M_valueOf_234
    exact V237 hs s.toNat K (Int.le_refl _) s0 (by first | decide | omega) (by first | decide | omega) a b
  unfold r32 at he
  intro j
  induction j with
  | zero =>
    intro n l u h0 h1 hj hn u0 u1
    obtain ⟨n, rfl⟩ : ∃ m, n = m + 1 := ⟨n - 1, (by first | decide | omega)⟩
    unfold f_M_valueOf_203
    rw [hb, if_pos (by unfold r32; omega), if_pos he, if_pos (by first | decide | omega), z7 u0 u1, Int.pow_zero, Int.mul_one]
  | succ j ih =>
    intro n l u h0 h1 hj hn u0 u1
    obtain ⟨n, rfl⟩ : ∃ m, n = m + 1 := ⟨n - 1, (by first | decide | omega)⟩
    unfold f_M_valueOf_203
    rw [hb, if_pos (by unfold r32; omega), if_pos he, if_neg (by first | decide | omega), if_pos (by unfold r32; omega)]
    by_cases b : 1024 < u
    · rw [if_pos b, z7 u0 u1, cap_big b (pw_1 (by decide) _), Int.mul_assoc, cap_big b (ml_1 (pw_1 (by decide) _) (pw_1 (by decide) _))]
    · rw [if_neg b, ih n (by first | decide | omega) (by first | decide | omega) (by first | decide | omega) (by first | decide | omega) (by first | decide | omega) (by first | decide | omega), Int.pow_succ, Int.mul_comm (5 ^ j), Int.mul_assoc u 5]
theorem V173 {K : Nat} {F : zF} {B : zB} {e s f : Int} (hb : B 14 0 51 5 = f) (hf : r32 f) (f0 : 0 ≤ f) (fK : f < K) (he : r32 e) (hs : r32 s) (s0 : 0 ≤ s) (hK : s < K) : ∀ (j n : Nat) {l u : Int}, 0 ≤ l → l ≤ e → (e - l).toNat = j → j < n → 1 ≤ u → u ≤ 10000 → f_M_valueOf_173 K n l u s e F B = some (cap (u * 3 ^ j * (5 ^ f.toNat * 7 ^ s.toNat)), F, B) := by
  have z7 : ∀ {u : Int}, 1 ≤ u → u ≤ 10000 → f_M_valueOf_200 K u s F B = some (cap (u * (5 ^ f.toNat * 7 ^ s.toNat)), F, B) := fun {u} a b => by
    unfold f_M_valueOf_200
    rw [V203 hb hf hs s0 hK f.toNat K (Int.le_refl _) f0 (by first | decide | omega) (by first | decide | omega) a b, Int.mul_assoc]
  unfold r32 at he
  intro j
  induction j with
  | zero =>
    intro n l u h0 h1 hj hn u0 u1
    obtain ⟨n, rfl⟩ : ∃ m, n = m + 1 := ⟨n - 1, (by first | decide | omega)⟩
    unfold f_M_valueOf_173
    rw [if_pos (by unfold r32; omega), if_pos he, if_pos (by first | decide | omega), z7 u0 u1, Int.pow_zero, Int.mul_one]
  | succ j ih =>
    intro n l u h0 h1 hj hn u0 u1
    obtain ⟨n, rfl⟩ : ∃ m, n = m + 1 := ⟨n - 1, (by first | decide | omega)⟩
    unfold f_M_valueOf_173
    rw [if_pos (by unfold r32; omega), if_pos he, if_neg (by first | decide | omega), if_pos (by unfold r32; omega)]
    by_cases b : 1024 < u
    · rw [if_pos b, z7 u0 u1, cap_big b (ml_1 (pw_1 (by decide) _) (pw_1 (by decide) _)), Int.mul_assoc, cap_big b (ml_1 (pw_1 (by decide) _) (ml_1 (pw_1 (by decide) _) (pw_1 (by decide) _)))]
    · rw [if_neg b, ih n (by first | decide | omega) (by first | decide | omega) (by first | decide | omega) (by first | decide | omega) (by first | decide | omega) (by first | decide | omega), Int.pow_succ, Int.mul_comm (3 ^ j), Int.mul_assoc u 3]
theorem V144 {K : Nat} {F : zF} {B : zB} {e s f t : Int} (hb : B 14 0 51 5 = f) (hf : r32 f) (f0 : 0 ≤ f) (fK : f < K) (ht : r32 t) (t0 : 0 ≤ t) (tK : t < K) (he : r32 e) (hs : r32 s) (s0 : 0 ≤ s) (hK : s < K) : ∀ (j n : Nat) {l u : Int}, 0 ≤ l → l ≤ e → (e - l).toNat = j → j < n → 1 ≤ u → u ≤ 10000 → f_M_valueOf_144 K n l u s t e F B = some (cap (u * 2 ^ j * (3 ^ t.toNat * (5 ^ f.toNat * 7 ^ s.toNat))), F, B) := by
  have z7 : ∀ {u : Int}, 1 ≤ u → u ≤ 10000 → f_M_valueOf_170 K u s t F B = some (cap (u * (3 ^ t.toNat * (5 ^ f.toNat * 7 ^ s.toNat))), F, B) := fun {u} a b => by
    unfold f_M_valueOf_170
    rw [V173 hb hf f0 fK ht hs s0 hK t.toNat K (Int.le_refl _) t0 (by first | decide | omega) (by first | decide | omega) a b, Int.mul_assoc]
  unfold r32 at he
  intro j
  induction j with
  | zero =>
    intro n l u h0 h1 hj hn u0 u1
    obtain ⟨n, rfl⟩ : ∃ m, n = m + 1 := ⟨n - 1, (by first | decide | omega)⟩
    unfold f_M_valueOf_144
    rw [if_pos (by unfold r32; omega), if_pos he, if_pos (by first | decide | omega), z7 u0 u1, Int.pow_zero, Int.mul_one]
  | succ j ih =>
    intro n l u h0 h1 hj hn u0 u1
    obtain ⟨n, rfl⟩ : ∃ m, n = m + 1 := ⟨n - 1, (by first | decide | omega)⟩
    unfold f_M_valueOf_144
    rw [if_pos (by unfold r32; omega), if_pos he, if_neg (by first | decide | omega), if_pos (by unfold r32; omega)]
    have h35 : ∀ (a b c : Nat), (1 : Int) ≤ 3 ^ a * (5 ^ b * 7 ^ c) := fun a b c => ml_1 (pw_1 (by decide) _) (ml_1 (pw_1 (by decide) _) (pw_1 (by decide) _))
    by_cases b : 1024 < u
    · rw [if_pos b, z7 u0 u1, cap_big b (h35 _ _ _), Int.mul_assoc, cap_big b (ml_1 (pw_1 (by decide) _) (h35 _ _ _))]
    · rw [if_neg b, ih n (by first | decide | omega) (by first | decide | omega) (by first | decide | omega) (by first | decide | omega) (by first | decide | omega) (by first | decide | omega), Int.pow_succ, Int.mul_comm (2 ^ j), Int.mul_assoc u 2]
/-- what both answer -/
def slV (a b c d : Int) : Int := if 0 ≤ a ∧ 0 ≤ b ∧ 0 ≤ c ∧ 0 ≤ d then cap (2 ^ a.toNat * (3 ^ b.toNat * (5 ^ c.toNat * 7 ^ d.toNat))) else -1
theorem V110 {K : Nat} {F : zF} {B : zB} {a b c s0 s1 : Int} (hb : B 14 0 51 5 = c) (ha : -2000 ≤ a ∧ a ≤ 2000) (hb' : -2000 ≤ b ∧ b ≤ 2000) (hc : -2000 ≤ c ∧ c ≤ 2000) (hs : -2000 ≤ s0 + s1 ∧ s0 + s1 ≤ 2000) (hK : 2000 < K) : f_M_valueOf_110 K b a s0 s1 F B = some (slV a b c (s0 + s1), F, B) := by
  unfold f_M_valueOf_110 f_M_valueOf_136 slV
  rw [hb, if_pos (by unfold r32; omega)]
  by_cases h1 : a < 0
  · rw [if_pos h1, if_neg (by first | decide | omega)]
  rw [if_neg h1, if_pos (by unfold r32; omega)]
  by_cases h2 : b < 0
  · rw [if_pos h2, if_neg (by first | decide | omega)]
  rw [if_neg h2, if_pos (by unfold r32; omega)]
  by_cases h3 : c < 0
  · rw [if_pos h3, if_neg (by first | decide | omega)]
  rw [if_neg h3, if_pos (by unfold r32; omega)]
  by_cases h4 : 0 ≤ s0 + s1
  · rw [if_pos h4, if_pos (by first | decide | omega), V144 hb (by unfold r32; omega) (by first | decide | omega) (by first | decide | omega) (by unfold r32; omega) (by first | decide | omega) (by first | decide | omega) (by unfold r32; omega) (by unfold r32; omega) h4 (by first | decide | omega) a.toNat K (Int.le_refl _) (by first | decide | omega) (by first | decide | omega) (by first | decide | omega) (by decide) (by decide), Int.one_mul]
  · rw [if_neg h4, if_neg (by first | decide | omega)]
/-- the twos of a length -/
def lg2 (n : Int) : Int := if n = 1 then 0 else if n = 2 then 1 else if n = 4 then 2 else if n = 8 then 3 else if n = 16 then 4 else 5
theorem V55 {K n : Nat} {F : zF} {B : zB} {a q : Int} (h : pw2 q) (hn : 6 ≤ n) : ∃ m, f_M_valueOf_55 K n q a 1 F B = f_M_valueOf_55 K (m + 1) 1 (a - lg2 q) 1 F B ∧ f_M_valueOf_55 K n q a 3 F B = f_M_valueOf_55 K (m + 1) 1 (a - lg2 q) 3 F B ∧ f_M_valueOf_55 K n q a 7 F B = f_M_valueOf_55 K (m + 1) 1 (a - lg2 q) 7 F B := by
  have st : ∀ (m : Nat) (q a t : Int), r32 q → 1 < q → f_M_valueOf_55 K (m + 1) q a t F B = f_M_valueOf_55 K m (zdv q 2) (a - 1) t F B := fun m q a t h1 h2 => by
    rw [f_M_valueOf_55, if_pos h1, if_neg (by first | decide | omega)]
  obtain ⟨n, rfl⟩ : ∃ m, n = m + 6 := ⟨n - 6, (by first | decide | omega)⟩
  have e2 : zdv 2 2 = 1 := by decide
  have e4 : zdv 4 2 = 2 := by decide
  have e8 : zdv 8 2 = 4 := by decide
  have e16 : zdv 16 2 = 8 := by decide
  have e32 : zdv 32 2 = 16 := by decide
  have g : ∀ t, ∃ m, m ≤ n + 5 ∧ m = n + 5 - (lg2 q).toNat ∧ f_M_valueOf_55 K (n + 6) q a t F B = f_M_valueOf_55 K (m + 1) 1 (a - lg2 q) t F B := by
    intro t
    rcases h with rfl | rfl | rfl | rfl | rfl | rfl
    · exact ⟨n + 5, (by first | decide | omega), rfl, by rw [show lg2 1 = 0 by decide, Int.sub_zero]⟩
    · exact ⟨n + 4, (by first | decide | omega), rfl, by rw [show lg2 2 = 1 by decide, st _ _ _ _ (by decide) (by decide), e2]⟩
    · exact ⟨n + 3, (by first | decide | omega), rfl, by rw [show lg2 4 = 2 by decide, st _ _ _ _ (by decide) (by decide), e4, st _ _ _ _ (by decide) (by decide), e2, Int.sub_sub]; rfl⟩
    · exact ⟨n + 2, (by first | decide | omega), rfl, by rw [show lg2 8 = 3 by decide, st _ _ _ _ (by decide) (by decide), e8, st _ _ _ _ (by decide) (by decide), e4, st _ _ _ _ (by decide) (by decide), e2, Int.sub_sub, Int.sub_sub]; rfl⟩
    · exact ⟨n + 1, (by first | decide | omega), rfl, by rw [show lg2 16 = 4 by decide, st _ _ _ _ (by decide) (by decide), e16, st _ _ _ _ (by decide) (by decide), e8, st _ _ _ _ (by decide) (by decide), e4, st _ _ _ _ (by decide) (by decide), e2, Int.sub_sub, Int.sub_sub, Int.sub_sub]; rfl⟩
    · exact ⟨n, (by first | decide | omega), rfl, by rw [show lg2 32 = 5 by decide, st _ _ _ _ (by decide) (by decide), e32, st _ _ _ _ (by decide) (by decide), e16, st _ _ _ _ (by decide) (by decide), e8, st _ _ _ _ (by decide) (by decide), e4, st _ _ _ _ (by decide) (by decide), e2, Int.sub_sub, Int.sub_sub, Int.sub_sub, Int.sub_sub]; rfl⟩
  obtain ⟨m1, _, e1, g1⟩ := g 1
  obtain ⟨m2, _, e3, g2⟩ := g 3
  obtain ⟨m3, _, e5, g3⟩ := g 7
  have k1 : m2 = m1 := by omega
  have k2 : m3 = m1 := by omega
  rw [k1] at g2
  rw [k2] at g3
  exact ⟨m1, g1, g2, g3⟩
theorem L_valueOf {K : Nat} {F : zF} {B : zB} {i n p : Int} (hi : 0 ≤ i ∧ i < 3001) (h32 : B 14 0 32 i = n) (h33 : B 14 0 33 i = p) (hn : pw2 n) (hp : 0 ≤ p ∧ p ≤ 2) (hpw : ∀ k, k = 2 ∨ k = 3 ∨ k = 5 ∨ k = 7 → -1000 ≤ B 14 0 51 k ∧ B 14 0 51 k ≤ 1000) (hK : 3000 < K) : f_M_valueOf K i F B = some (slV (B 14 0 51 2 + 7 - p - lg2 n) (B 14 0 51 3 + (if p = 1 then 1 else 0)) (B 14 0 51 5) (B 14 0 51 7 + (if p = 2 then 1 else 0)), F, B) := by
  have b2 := hpw 2 (by decide)
  have b3 := hpw 3 (by decide)
  have b5 := hpw 5 (by decide)
  have b7 := hpw 7 (by decide)
  have hl : 0 ≤ lg2 n ∧ lg2 n ≤ 5 := by
    rcases hn with rfl | rfl | rfl | rfl | rfl | rfl <;> decide
  obtain ⟨m, g1, g3, g7⟩ := V55 (K := K) (n := K) (F := F) (B := B) (a := B 14 0 51 2 + 7 - p) hn (by first | decide | omega)
  unfold f_M_valueOf f_M_valueOf_29
  rw [if_pos hi, h33, h32, if_pos (by unfold r32; omega)]
  simp only [if_pos hi]
  by_cases p0 : p = 0
  · rw [if_pos p0, g1, f_M_valueOf_55, if_pos (by decide), if_pos (by decide), if_pos (by decide), if_neg (by decide), f_M_valueOf_89, if_pos (by decide), if_neg (by decide), V110 rfl (by first | decide | omega) (by first | decide | omega) (by first | decide | omega) (by first | decide | omega) (by first | decide | omega), if_neg (by first | decide | omega), if_neg (by first | decide | omega)]
  rw [if_neg p0]
  by_cases p1 : p = 1
  · rw [if_pos p1, g3, f_M_valueOf_55, if_pos (by decide), if_pos (by decide), if_pos (by decide), if_pos rfl, f_M_valueOf_89, if_pos (by decide), if_neg (by decide), V110 rfl (by first | decide | omega) (by first | decide | omega) (by first | decide | omega) (by first | decide | omega) (by first | decide | omega), if_pos p1, if_neg (by first | decide | omega)]
  · rw [if_neg p1, g7, f_M_valueOf_55, if_pos (by decide), if_pos (by decide), if_pos (by decide), if_neg (by decide), f_M_valueOf_89, if_pos (by decide), if_pos rfl, V110 rfl (by first | decide | omega) (by first | decide | omega) (by first | decide | omega) (by first | decide | omega) (by first | decide | omega), if_neg p1, if_pos (by first | decide | omega)]
end
end
section
section
/-! ===== the class's value times the slows around ===== -/
theorem zt6l : ztl 6 = 4 := by decide
theorem zt6_0 : ztv 6 0 = 2 := by decide
theorem zt6_1 : ztv 6 1 = 3 := by decide
theorem zt6_2 : ztv 6 2 = 5 := by decide
theorem zt6_3 : ztv 6 3 = 7 := by decide
theorem zdm_e : ∀ x : Fin 1025, ∀ p ∈ [2, 3, 5, 7], zrm (x.val : Int) p = (x.val : Int) % p ∧ zdv (x.val : Int) p = (x.val : Int) / p := by decide +kernel
theorem zdm {x p : Int} (h0 : 0 ≤ x) (h1 : x ≤ 1024) (hp : p = 2 ∨ p = 3 ∨ p = 5 ∨ p = 7) : zrm x p = x % p ∧ zdv x p = x / p := by
  have h := zdm_e ⟨x.toNat, (by first | decide | omega)⟩ p (by rcases hp with rfl | rfl | rfl | rfl <;> decide)
  rw [show (((⟨x.toNat, (by first | decide | omega)⟩ : Fin 1025).val : Nat) : Int) = x by show ((x.toNat : Nat) : Int) = x; omega] at h
  exact h
/-- multiplied up -/
theorem S70 {rec : Int → Int → Int → zF → zB → zO} {K : zK} {F : zF} {B : zB} {P m q e : Int} (h11 : 0 < K.2 11) (hq : 0 ≤ q ∧ q < 4) (hP : ztv 6 q = P) (P2 : 2 ≤ P ∧ P ≤ 7) (he : B 11 0 14 q = e) (hm : 1 ≤ m) (e1 : -2000 ≤ e ∧ e ≤ 2000) (hr : ∀ x, 1 ≤ x → x ≤ 1024 → rec (q + 1) x 0 F B = some (cap (x * m), F, B)) : ∀ (j n : Nat) {l x : Int}, 0 ≤ l → l ≤ 2000 → (e - l).toNat = j → j < n → 1 ≤ x → x ≤ 1024 → f_Walker_slowed_70 rec K n l q x 0 F B = some (cap (x * P ^ j * m), F, B) := by
  intro j
  induction j with
  | zero =>
    intro n l x h0 h1 hj hn x0 x1
    obtain ⟨n, rfl⟩ : ∃ m, n = m + 1 := ⟨n - 1, (by first | decide | omega)⟩
    unfold f_Walker_slowed_70
    rw [if_pos ⟨Int.le_refl _, h11⟩, if_pos hq, he, if_pos (by unfold r32; omega), if_pos (by unfold r32; omega), if_pos (by first | decide | omega), hr x x0 x1, Int.pow_zero, Int.mul_one]
  | succ j ih =>
    intro n l x h0 h1 hj hn x0 x1
    obtain ⟨n, rfl⟩ : ∃ m, n = m + 1 := ⟨n - 1, (by first | decide | omega)⟩
    have xP : 1 ≤ x * P := ml_1 x0 (by first | decide | omega)
    have xP2 : x * P ≤ 1024 * 7 := Int.mul_le_mul x1 P2.2 (by first | decide | omega) (by decide)
    unfold f_Walker_slowed_70
    rw [if_pos ⟨Int.le_refl _, h11⟩, if_pos hq, he, if_pos (by unfold r32; omega), if_pos (by unfold r32; omega), if_neg (by first | decide | omega), if_pos (by rw [zt6l]; omega), hP, if_pos (by unfold r32; omega)]
    have ee : x * P ^ (j + 1) * m = x * P * (P ^ j * m) := by
      rw [Int.pow_succ]
      ac_rfl
    by_cases b : x * P ≤ 1024
    · rw [if_pos b, ih n (by first | decide | omega) (by first | decide | omega) (by first | decide | omega) (by first | decide | omega) xP b, ee]
      congr 3
      ac_rfl
    · rw [if_neg b, ee, cap_big (by first | decide | omega) (ml_1 (pw_1 (by first | decide | omega) _) hm)]
/-- divided down -/
theorem S20 {rec : Int → Int → Int → zF → zB → zO} {K : zK} {F : zF} {B : zB} {P q r : Int} (hq : 0 ≤ q ∧ q < 4) (hP : ztv 6 q = P) (hP7 : P = 2 ∨ P = 3 ∨ P = 5 ∨ P = 7) (hr0 : 1 ≤ r) (hr : ¬ r % P = 0) : ∀ (j n k : Nat) {l : Int}, -2000 ≤ l → l ≤ 2000 → (-l).toNat = j → j < n → P ^ k * r ≤ 1024 → f_Walker_slowed_20 rec K n l q (P ^ k * r) 0 F B = if j ≤ k then rec (q + 1) (P ^ (k - j) * r) 0 F B else some (-1, F, B) := by
  have P2 : 2 ≤ P ∧ P ≤ 7 := by omega
  intro j
  induction j with
  | zero =>
    intro n k l h0 h1 hj hn hx
    obtain ⟨n, rfl⟩ : ∃ m, n = m + 1 := ⟨n - 1, (by first | decide | omega)⟩
    unfold f_Walker_slowed_20
    rw [if_pos (by unfold r32; omega), if_pos (by first | decide | omega), if_pos (by first | decide | omega), Nat.sub_zero]
  | succ j ih =>
    intro n k l h0 h1 hj hn hx
    obtain ⟨n, rfl⟩ : ∃ m, n = m + 1 := ⟨n - 1, (by first | decide | omega)⟩
    have x0 : 1 ≤ P ^ k * r := ml_1 (pw_1 (by first | decide | omega) _) hr0
    obtain ⟨z1, z2⟩ := zdm (x := P ^ k * r) (by first | decide | omega) hx hP7
    have m0 : 0 ≤ (P ^ k * r) % P := Int.emod_nonneg _ (by first | decide | omega)
    have m1 : (P ^ k * r) % P < P := Int.emod_lt_of_pos _ (by first | decide | omega)
    unfold f_Walker_slowed_20
    rw [if_pos (by unfold r32; omega), if_neg (by first | decide | omega), if_pos (by rw [zt6l]; omega), hP, if_pos (iI_n0 (by first | decide | omega) (by first | decide | omega)), z1, z2, if_pos (by unfold r32; omega)]
    cases k with
    | zero =>
      rw [Int.pow_zero, Int.one_mul, if_neg hr, if_neg (by first | decide | omega)]
    | succ k =>
      have ee : P ^ (k + 1) * r = P * (P ^ k * r) := by
        rw [Int.pow_succ]
        ac_rfl
      have e0 : P ^ (k + 1) * r % P = 0 := by rw [ee]; exact Int.mul_emod_right _ _
      have e1 : P ^ (k + 1) * r / P = P ^ k * r := by rw [ee]; exact Int.mul_ediv_cancel_left _ (by first | decide | omega)
      have e2 : P ^ k * r ≤ 1024 := by
        have : 1 ≤ P ^ k * r := ml_1 (pw_1 (by first | decide | omega) _) hr0
        have : 1 * (P ^ k * r) ≤ P * (P ^ k * r) := Int.mul_le_mul_of_nonneg_right (by first | decide | omega) (by first | decide | omega)
        omega
      rw [if_pos e0, e1, ih n k (by first | decide | omega) (by first | decide | omega) (by first | decide | omega) (by first | decide | omega) e2]
      by_cases c : j ≤ k
      · rw [if_pos c, if_pos (by first | decide | omega), Nat.add_sub_add_right]
      · rw [if_neg c, if_neg (by first | decide | omega)]
/-- all four multiplied -/
theorem S59 {K : zK} {F : zF} {B : zB} {e0 e1 e2 e3 : Int} {n : Nat} (h11 : 0 < K.2 11) (hK : 2000 < K.1) (hn : 5 ≤ n) (h0 : B 11 0 14 0 = e0) (h1 : B 11 0 14 1 = e1) (h2 : B 11 0 14 2 = e2) (h3 : B 11 0 14 3 = e3) (b0 : -2000 ≤ e0 ∧ e0 ≤ 2000) (b1 : -2000 ≤ e1 ∧ e1 ≤ 2000) (b2 : -2000 ≤ e2 ∧ e2 ≤ 2000) (b3 : -2000 ≤ e3 ∧ e3 ≤ 2000) {x : Int} (x0 : 1 ≤ x) (x1 : x ≤ 1024) : f_Walker_slowed_59 K n 0 x 0 F B = some (cap (x * (2 ^ e0.toNat * (3 ^ e1.toNat * (5 ^ e2.toNat * 7 ^ e3.toNat)))), F, B) := by
  obtain ⟨n, rfl⟩ : ∃ m, n = m + 5 := ⟨n - 5, (by first | decide | omega)⟩
  have i4 : ∀ x, 1 ≤ x → x ≤ 1024 → f_Walker_slowed_59 K (n + 1) (3 + 1) x 0 F B = some (cap (x * 1), F, B) := fun x a b => by
    unfold f_Walker_slowed_59 f_Walker_slowed_122 cap
    rw [zt6l, if_pos (by decide), if_pos (by decide), if_pos (by decide), if_pos (by unfold r32; omega), Int.mul_one]
    split <;> rfl
  have i3 : ∀ x, 1 ≤ x → x ≤ 1024 → f_Walker_slowed_59 K (n + 2) (2 + 1) x 0 F B = some (cap (x * 7 ^ e3.toNat), F, B) := fun x a b => by
    unfold f_Walker_slowed_59
    rw [zt6l, if_pos (by decide), if_pos (by decide), if_neg (by decide), show (2 : Int) + 1 = 3 by decide, S70 (P := 7) (m := 1) h11 (by decide) zt6_3 (by decide) h3 (by decide) b3 i4 e3.toNat K.1 (by decide) (by decide) (by first | decide | omega) (by first | decide | omega) a b, Int.mul_one]
  have i2 : ∀ x, 1 ≤ x → x ≤ 1024 → f_Walker_slowed_59 K (n + 3) (1 + 1) x 0 F B = some (cap (x * (5 ^ e2.toNat * 7 ^ e3.toNat)), F, B) := fun x a b => by
    unfold f_Walker_slowed_59
    rw [zt6l, if_pos (by decide), if_pos (by decide), if_neg (by decide), show (1 : Int) + 1 = 2 by decide, S70 (P := 5) h11 (by decide) zt6_2 (by decide) h2 (pw_1 (by decide) _) b2 i3 e2.toNat K.1 (by decide) (by decide) (by first | decide | omega) (by first | decide | omega) a b, Int.mul_assoc]
  have i1 : ∀ x, 1 ≤ x → x ≤ 1024 → f_Walker_slowed_59 K (n + 4) (0 + 1) x 0 F B = some (cap (x * (3 ^ e1.toNat * (5 ^ e2.toNat * 7 ^ e3.toNat))), F, B) := fun x a b => by
    unfold f_Walker_slowed_59
    rw [zt6l, if_pos (by decide), if_pos (by decide), if_neg (by decide), show (0 : Int) + 1 = 1 by decide, S70 (P := 3) h11 (by decide) zt6_1 (by decide) h1 (ml_1 (pw_1 (by decide) _) (pw_1 (by decide) _)) b1 i2 e1.toNat K.1 (by decide) (by decide) (by first | decide | omega) (by first | decide | omega) a b, Int.mul_assoc]
  unfold f_Walker_slowed_59
  rw [zt6l, if_pos (by decide), if_pos (by decide), if_neg (by decide), S70 (P := 2) h11 (by decide) zt6_0 (by decide) h0 (ml_1 (pw_1 (by decide) _) (ml_1 (pw_1 (by decide) _) (pw_1 (by decide) _))) b0 i1 e0.toNat K.1 (by decide) (by decide) (by first | decide | omega) (by first | decide | omega) x0 x1, Int.mul_assoc]
theorem nd2 : ∀ b c : Fin 2, ¬ ((3 : Int) ^ b.val * 7 ^ c.val) % 2 = 0 := by decide +kernel
theorem nd3 : ∀ a : Fin 8, ∀ c : Fin 2, ¬ ((2 : Int) ^ a.val * 7 ^ c.val) % 3 = 0 := by decide +kernel
theorem nd5 : ∀ a : Fin 8, ∀ b c : Fin 2, ¬ ((2 : Int) ^ a.val * 3 ^ b.val * 7 ^ c.val) % 5 = 0 := by decide +kernel
theorem nd7 : ∀ a : Fin 8, ∀ b : Fin 2, ¬ ((2 : Int) ^ a.val * 3 ^ b.val) % 7 = 0 := by decide +kernel
theorem ndb : ∀ a : Fin 8, ∀ b c : Fin 2, b.val + c.val ≤ 1 → (2 : Int) ^ a.val * 3 ^ b.val * 7 ^ c.val ≤ 1024 := by decide +kernel
theorem nsub (e : Int) (k : Nat) (h : (-e).toNat ≤ k) : ((k : Int) + e).toNat = k - (-e).toNat + e.toNat := by omega
theorem C_slow {K : zK} {F : zF} {B : zB} {e0 e1 e2 e3 : Int} {a b c : Nat} (ha : a ≤ 7) (hbc : b + c ≤ 1) (h11 : 0 < K.2 11) (hK : 2000 < K.1) (h0 : B 11 0 14 0 = e0) (h1 : B 11 0 14 1 = e1) (h2 : B 11 0 14 2 = e2) (h3 : B 11 0 14 3 = e3) (b0 : -2000 ≤ e0 ∧ e0 ≤ 2000) (b1 : -2000 ≤ e1 ∧ e1 ≤ 2000) (b2 : -2000 ≤ e2 ∧ e2 ≤ 2000) (b3 : -2000 ≤ e3 ∧ e3 ≤ 2000) : f_Walker_slowed K 0 (2 ^ a * 3 ^ b * 7 ^ c) F B = some (slV (a + e0) (b + e1) e2 (c + e3), F, B) := by
  obtain ⟨n, hn⟩ : ∃ m, K.1 = m + 5 := ⟨K.1 - 5, (by first | decide | omega)⟩
  have st : ∀ (m : Nat) (q x : Int), 0 ≤ q → q < 4 → f_Walker_slowed_4 K (m + 1) q x 0 F B = f_Walker_slowed_20 (f_Walker_slowed_4 K m) K K.1 (B 11 0 14 q) q x 0 F B := fun m q x u v => by
    rw [f_Walker_slowed_4, zt6l, if_pos (by unfold r32; omega), if_pos (by decide), if_neg (by first | decide | omega), if_pos ⟨Int.le_refl _, h11⟩, if_pos ⟨u, v⟩]
  have en : ∀ (m : Nat) (x : Int), f_Walker_slowed_4 K (m + 1) 4 x 0 F B = f_Walker_slowed_59 K K.1 0 x 0 F B := fun m x => by
    rw [f_Walker_slowed_4, zt6l, if_pos (by decide), if_pos (by decide), if_pos (by decide)]
  have bd : ∀ (a' b' c' : Nat), a' ≤ 7 → b' ≤ 1 → c' ≤ 1 → b' + c' ≤ 1 → (2 : Int) ^ a' * 3 ^ b' * 7 ^ c' ≤ 1024 := fun a' b' c' u v w s => ndb ⟨a', (by first | decide | omega)⟩ ⟨b', (by first | decide | omega)⟩ ⟨c', (by first | decide | omega)⟩ s
  have lo : ∀ (a' b' c' : Nat), (1 : Int) ≤ 2 ^ a' * 3 ^ b' * 7 ^ c' := fun a' b' c' => ml_1 (ml_1 (pw_1 (by decide) _) (pw_1 (by decide) _)) (pw_1 (by decide) _)
  unfold f_Walker_slowed slV
  rw [hn, st _ _ _ (by decide) (by decide), h0, show (2 : Int) ^ a * 3 ^ b * 7 ^ c = 2 ^ a * (3 ^ b * 7 ^ c) by rw [Int.mul_assoc], S20 (P := 2) (by decide) zt6_0 (by decide) (ml_1 (pw_1 (by decide) _) (pw_1 (by decide) _)) (nd2 ⟨b, (by first | decide | omega)⟩ ⟨c, (by first | decide | omega)⟩) (-e0).toNat K.1 a (by first | decide | omega) (by first | decide | omega) rfl (by first | decide | omega) (by rw [← Int.mul_assoc]; exact bd a b c ha (by first | decide | omega) (by first | decide | omega) (by first | decide | omega))]
  by_cases k0 : (-e0).toNat ≤ a
  case neg => rw [if_neg k0, if_neg (by first | decide | omega)]
  rw [if_pos k0, show (0 : Int) + 1 = 1 by decide, st _ _ _ (by decide) (by decide), h1]
  generalize hA : a - (-e0).toNat = a'
  rw [show (2 : Int) ^ a' * (3 ^ b * 7 ^ c) = 3 ^ b * (2 ^ a' * 7 ^ c) by ac_rfl, S20 (P := 3) (by decide) zt6_1 (by decide) (ml_1 (pw_1 (by decide) _) (pw_1 (by decide) _)) (nd3 ⟨a', (by first | decide | omega)⟩ ⟨c, (by first | decide | omega)⟩) (-e1).toNat K.1 b (by first | decide | omega) (by first | decide | omega) rfl (by first | decide | omega) (by rw [show (3 : Int) ^ b * (2 ^ a' * 7 ^ c) = 2 ^ a' * 3 ^ b * 7 ^ c by ac_rfl]; exact bd a' b c (by first | decide | omega) (by first | decide | omega) (by first | decide | omega) (by first | decide | omega))]
  by_cases k1 : (-e1).toNat ≤ b
  case neg => rw [if_neg k1, if_neg (by first | decide | omega)]
  rw [if_pos k1, show (1 : Int) + 1 = 2 by decide, st _ _ _ (by decide) (by decide), h2]
  generalize hB : b - (-e1).toNat = b'
  rw [show (3 : Int) ^ b' * (2 ^ a' * 7 ^ c) = 5 ^ 0 * (2 ^ a' * 3 ^ b' * 7 ^ c) by rw [Int.pow_zero, Int.one_mul]; ac_rfl, S20 (P := 5) (by decide) zt6_2 (by decide) (lo _ _ _) (nd5 ⟨a', (by first | decide | omega)⟩ ⟨b', (by first | decide | omega)⟩ ⟨c, (by first | decide | omega)⟩) (-e2).toNat K.1 0 (by first | decide | omega) (by first | decide | omega) rfl (by first | decide | omega) (by rw [Int.pow_zero, Int.one_mul]; exact bd a' b' c (by first | decide | omega) (by first | decide | omega) (by first | decide | omega) (by first | decide | omega))]
  by_cases k2 : (-e2).toNat ≤ 0
  case neg => rw [if_neg k2, if_neg (by first | decide | omega)]
  rw [if_pos k2, show (2 : Int) + 1 = 3 by decide, st _ _ _ (by decide) (by decide), h3, Nat.zero_sub, Int.pow_zero, Int.one_mul, show (2 : Int) ^ a' * 3 ^ b' * 7 ^ c = 7 ^ c * (2 ^ a' * 3 ^ b') by ac_rfl, S20 (P := 7) (by decide) zt6_3 (by decide) (ml_1 (pw_1 (by decide) _) (pw_1 (by decide) _)) (nd7 ⟨a', (by first | decide | omega)⟩ ⟨b', (by first | decide | omega)⟩) (-e3).toNat K.1 c (by first | decide | omega) (by first | decide | omega) rfl (by first | decide | omega) (by rw [show (7 : Int) ^ c * (2 ^ a' * 3 ^ b') = 2 ^ a' * 3 ^ b' * 7 ^ c by ac_rfl]; exact bd a' b' c (by first | decide | omega) (by first | decide | omega) (by first | decide | omega) (by first | decide | omega))]
  by_cases k3 : (-e3).toNat ≤ c
  case neg => rw [if_neg k3, if_neg (by first | decide | omega)]
  rw [if_pos k3, if_pos (by first | decide | omega)]
  generalize hC : c - (-e3).toNat = c'
  rw [show (3 : Int) + 1 = 4 by decide, en, show (7 : Int) ^ c' * (2 ^ a' * 3 ^ b') = 2 ^ a' * 3 ^ b' * 7 ^ c' by ac_rfl, S59 h11 hK (by first | decide | omega) h0 h1 h2 h3 b0 b1 b2 b3 (lo _ _ _) (bd a' b' c' (by first | decide | omega) (by first | decide | omega) (by first | decide | omega) (by first | decide | omega)), nsub e0 a k0, nsub e1 b k1, nsub e3 c k3, hA, hB, hC]
  congr 3
  rw [Int.pow_add, Int.pow_add, Int.pow_add]
  ac_rfl
end
end
section
section
/-! ===== lengths as powers; the powers of slows ===== -/
theorem lenV_e {n p : Int} (hn : pw2 n) (hp : 0 ≤ p ∧ p ≤ 2) : lenV n p = 2 ^ (7 - p - lg2 n).toNat * 3 ^ (if p = 1 then 1 else 0) * 7 ^ (if p = 2 then 1 else 0) ∧ 0 ≤ 7 - p - lg2 n ∧ 7 - p - lg2 n ≤ 7 := by
  have h : p = 0 ∨ p = 1 ∨ p = 2 := by omega
  rcases h with rfl | rfl | rfl <;> rcases hn with rfl | rfl | rfl | rfl | rfl | rfl <;> decide +kernel
theorem C_slowed {K : zK} {F : zF} {B : zB} {n p v : Int} (hv : v = lenV n p) (hn : pw2 n) (hp : 0 ≤ p ∧ p ≤ 2) (h11 : 0 < K.2 11) (hK : 2000 < K.1) (hb : ∀ q, 0 ≤ q → q < 4 → -1000 ≤ B 11 0 14 q ∧ B 11 0 14 q ≤ 1000) : f_Walker_slowed K 0 v F B = some (slV (B 11 0 14 0 + 7 - p - lg2 n) (B 11 0 14 1 + (if p = 1 then 1 else 0)) (B 11 0 14 2) (B 11 0 14 3 + (if p = 2 then 1 else 0)), F, B) := by
  obtain ⟨e, l0, l1⟩ := lenV_e hn hp
  have b0 := hb 0 (by decide) (by decide)
  have b1 := hb 1 (by decide) (by decide)
  have b2 := hb 2 (by decide) (by decide)
  have b3 := hb 3 (by decide) (by decide)
  have hc := C_slow (K := K) (F := F) (B := B) (a := (7 - p - lg2 n).toNat) (b := if p = 1 then 1 else 0) (c := if p = 2 then 1 else 0) (by first | decide | omega) (by split <;> split <;> omega) h11 hK rfl rfl rfl rfl (by first | decide | omega) (by first | decide | omega) (by first | decide | omega) (by first | decide | omega)
  rw [hv, e, hc]
  congr 3
  · omega
  · split <;> omega
  · split <;> omega
def exN (p x : Int) : Nat := if x % p = 0 then (if x / p % p = 0 then (if x / p / p % p = 0 then 3 else 2) else 1) else 0
def rmN (p x : Int) : Int := x / p ^ exN p x
theorem exN_f : ∀ x : Fin 9, 1 ≤ x.val → ∀ p ∈ [(2 : Int), 3, 5, 7], (exN p x.val ≤ 3 ∧ (x.val : Int) = p ^ exN p x.val * rmN p x.val ∧ ¬ rmN p x.val % p = 0 ∧ 1 ≤ rmN p x.val ∧ rmN p x.val ≤ 8) := by decide +kernel
theorem exN_g : ∀ x : Fin 9, 1 ≤ x.val → (exN 3 (rmN 2 x.val) = exN 3 x.val ∧ exN 5 (rmN 3 (rmN 2 x.val)) = exN 5 x.val ∧ exN 7 (rmN 5 (rmN 3 (rmN 2 x.val))) = exN 7 x.val ∧ ¬ rmN 3 (rmN 2 x.val) % 4 = 0 ∧ ¬ rmN 5 (rmN 3 (rmN 2 x.val)) % 6 = 0) := by decide +kernel
theorem exN_e {x p : Int} (h0 : 1 ≤ x) (h1 : x ≤ 8) (hp : p = 2 ∨ p = 3 ∨ p = 5 ∨ p = 7) : exN p x ≤ 3 ∧ x = p ^ exN p x * rmN p x ∧ ¬ rmN p x % p = 0 ∧ 1 ≤ rmN p x ∧ rmN p x ≤ 8 := by
  have h := exN_f ⟨x.toNat, (by first | decide | omega)⟩ (by show 1 ≤ x.toNat; omega) p (by rcases hp with rfl | rfl | rfl | rfl <;> decide)
  rw [show (((⟨x.toNat, (by first | decide | omega)⟩ : Fin 9).val : Nat) : Int) = x by show ((x.toNat : Nat) : Int) = x; omega] at h
  exact h
theorem exN_h {x : Int} (h0 : 1 ≤ x) (h1 : x ≤ 8) : exN 3 (rmN 2 x) = exN 3 x ∧ exN 5 (rmN 3 (rmN 2 x)) = exN 5 x ∧ exN 7 (rmN 5 (rmN 3 (rmN 2 x))) = exN 7 x ∧ ¬ rmN 3 (rmN 2 x) % 4 = 0 ∧ ¬ rmN 5 (rmN 3 (rmN 2 x)) % 6 = 0 := by
  have h := exN_g ⟨x.toNat, (by first | decide | omega)⟩ (by show 1 ≤ x.toNat; omega)
  rw [show (((⟨x.toNat, (by first | decide | omega)⟩ : Fin 9).val : Nat) : Int) = x by show ((x.toNat : Nat) : Int) = x; omega] at h
  exact h
theorem zd8_e : ∀ x : Fin 9, ∀ p : Fin 8, 2 ≤ p.val → zrm (x.val : Int) (p.val : Int) = (x.val : Int) % (p.val : Int) ∧ zdv (x.val : Int) (p.val : Int) = (x.val : Int) / (p.val : Int) := by decide +kernel
theorem zd8 {x p : Int} (h0 : 0 ≤ x) (h1 : x ≤ 8) (p0 : 2 ≤ p) (p1 : p ≤ 7) : zrm x p = x % p ∧ zdv x p = x / p := by
  have h := zd8_e ⟨x.toNat, (by first | decide | omega)⟩ ⟨p.toNat, (by first | decide | omega)⟩ (by show 2 ≤ p.toNat; omega)
  rw [show (((⟨x.toNat, (by first | decide | omega)⟩ : Fin 9).val : Nat) : Int) = x by show ((x.toNat : Nat) : Int) = x; omega, show (((⟨p.toNat, (by first | decide | omega)⟩ : Fin 8).val : Nat) : Int) = p by show ((p.toNat : Nat) : Int) = p; omega] at h
  exact h
/-- cell x of row (c, 0, k) grew by v -/
def grew (c k : Nat) (x v : Int) (B B' : zB) : Prop := B' c 0 k x = B c 0 k x + v ∧ ∀ c' i' k' x', ¬ (c' = c ∧ i' = 0 ∧ k' = k ∧ x' = x) → B' c' i' k' x' = B c' i' k' x'
theorem grew_0 {c k : Nat} {x : Int} {B : zB} : grew c k x 0 B B := ⟨(by first | decide | omega), fun _ _ _ _ _ => rfl⟩
theorem grew_s {c k : Nat} {x v w : Int} {B B' : zB} (h : grew c k x v (zup4 B c 0 k x (B c 0 k x + w)) B') : grew c k x (v + w) B B' := ⟨by rw [h.1, zup4_v, if_pos ⟨rfl, rfl, rfl, rfl⟩]; omega, fun c' i' k' x' n => by rw [h.2 c' i' k' x' n, zup4_v, if_neg n]⟩
theorem M17 {rec : Int → Int → Int → Int → zF → zB → zO} {K : zK} {F : zF} {P q s r : Int} (h11 : 0 < K.2 11) (hq : 0 ≤ q ∧ q < 4) (hP : ztv 6 q = P) (hP7 : P = 2 ∨ P = 3 ∨ P = 5 ∨ P = 7) (hr0 : 1 ≤ r) (hr : ¬ r % P = 0) : ∀ (k n : Nat) {l : Int} {B : zB}, 0 ≤ l → l + k ≤ 3 → k < n → P ^ k * r ≤ 8 → ∃ B', f_Walker_multiplySlow_17 rec K n l q (P ^ k * r) 0 s F B = rec (q + 1) r 0 s F B' ∧ grew 11 14 q (k * s) B B' := by
  intro k
  induction k with
  | zero =>
    intro n l B h0 h1 hn hx
    obtain ⟨n, rfl⟩ : ∃ m, n = m + 1 := ⟨n - 1, (by first | decide | omega)⟩
    rw [Int.pow_zero, Int.one_mul] at hx ⊢
    have m0 : 0 ≤ r % P := Int.emod_nonneg _ (by first | decide | omega)
    have m1 : r % P < P := Int.emod_lt_of_pos _ (by first | decide | omega)
    refine ⟨B, ?_, by simpa using grew_0⟩
    unfold f_Walker_multiplySlow_17 f_Walker_multiplySlow_60
    rw [if_pos (by unfold r32; omega), if_neg (by first | decide | omega), if_pos (by rw [zt6l]; omega), hP, if_pos (iI_n0 (by first | decide | omega) (by first | decide | omega)), (zd8 (by first | decide | omega) hx (by first | decide | omega) (by first | decide | omega)).1, if_pos (by unfold r32; omega), if_neg hr]
  | succ k ih =>
    intro n l B h0 h1 hn hx
    obtain ⟨n, rfl⟩ : ∃ m, n = m + 1 := ⟨n - 1, (by first | decide | omega)⟩
    have x0 : 1 ≤ P ^ k * r := ml_1 (pw_1 (by first | decide | omega) _) hr0
    have ee : P ^ (k + 1) * r = P * (P ^ k * r) := by
      rw [Int.pow_succ]
      ac_rfl
    rw [ee] at hx ⊢
    have e0 : P * (P ^ k * r) % P = 0 := Int.mul_emod_right _ _
    have e1 : P * (P ^ k * r) / P = P ^ k * r := Int.mul_ediv_cancel_left _ (by first | decide | omega)
    have e2 : 1 * (P ^ k * r) ≤ P * (P ^ k * r) := Int.mul_le_mul_of_nonneg_right (by first | decide | omega) (by first | decide | omega)
    obtain ⟨z1, z2⟩ := zd8 (x := P * (P ^ k * r)) (p := P) (by first | decide | omega) hx (by first | decide | omega) (by first | decide | omega)
    obtain ⟨B', h, g⟩ := ih n (l := l + 1) (B := zup4 B 11 0 14 q (B 11 0 14 q + s)) (by first | decide | omega) (by first | decide | omega) (by first | decide | omega) (by first | decide | omega)
    refine ⟨B', ?_, ?_⟩
    · unfold f_Walker_multiplySlow_17
      rw [if_pos (by unfold r32; omega), if_neg (by first | decide | omega), if_pos (by rw [zt6l]; omega), hP, if_pos (iI_n0 (by first | decide | omega) (by first | decide | omega)), z1, z2, e0, e1, if_pos (by decide), if_pos rfl, if_pos ⟨Int.le_refl _, h11⟩, if_pos hq, h]
    · have := grew_s g
      rwa [show ((k + 1 : Nat) : Int) * s = k * s + s by rw [Int.natCast_add, Int.add_mul]; simp]
theorem M12 {rec : Int → Int → Int → zF → zB → zO} {K : Nat} {F : zF} {P s r : Int} (hP7 : P = 2 ∨ P = 3 ∨ P = 5 ∨ P = 7) (hr0 : 1 ≤ r) (hr : ¬ r % P = 0) : ∀ (k n : Nat) {B : zB}, k < n → P ^ k * r ≤ 8 → ∃ B', f_M_power_12 rec K n P (P ^ k * r) s F B = rec (P + 1) r s F B' ∧ grew 14 51 P (k * s) B B' := by
  intro k
  induction k with
  | zero =>
    intro n B hn hx
    obtain ⟨n, rfl⟩ : ∃ m, n = m + 1 := ⟨n - 1, (by first | decide | omega)⟩
    rw [Int.pow_zero, Int.one_mul] at hx ⊢
    have m0 : 0 ≤ r % P := Int.emod_nonneg _ (by first | decide | omega)
    have m1 : r % P < P := Int.emod_lt_of_pos _ (by first | decide | omega)
    refine ⟨B, ?_, by simpa using grew_0⟩
    unfold f_M_power_12
    rw [if_pos (iI_n0 (by first | decide | omega) (by first | decide | omega)), (zd8 (by first | decide | omega) hx (by first | decide | omega) (by first | decide | omega)).1, if_pos (by unfold r32; omega), if_neg hr]
  | succ k ih =>
    intro n B hn hx
    obtain ⟨n, rfl⟩ : ∃ m, n = m + 1 := ⟨n - 1, (by first | decide | omega)⟩
    have x0 : 1 ≤ P ^ k * r := ml_1 (pw_1 (by first | decide | omega) _) hr0
    have ee : P ^ (k + 1) * r = P * (P ^ k * r) := by
      rw [Int.pow_succ]
      ac_rfl
    rw [ee] at hx ⊢
    have e0 : P * (P ^ k * r) % P = 0 := Int.mul_emod_right _ _
    have e1 : P * (P ^ k * r) / P = P ^ k * r := Int.mul_ediv_cancel_left _ (by first | decide | omega)
    have e2 : 1 * (P ^ k * r) ≤ P * (P ^ k * r) := Int.mul_le_mul_of_nonneg_right (by first | decide | omega) (by first | decide | omega)
    obtain ⟨z1, z2⟩ := zd8 (x := P * (P ^ k * r)) (p := P) (by first | decide | omega) hx (by first | decide | omega) (by first | decide | omega)
    obtain ⟨B', h, g⟩ := ih n (B := zup4 B 14 0 51 P (B 14 0 51 P + s)) (by first | decide | omega) (by first | decide | omega)
    refine ⟨B', ?_, ?_⟩
    · unfold f_M_power_12
      rw [if_pos (iI_n0 (by first | decide | omega) (by first | decide | omega)), z1, z2, e0, e1, if_pos (by decide), if_pos rfl, if_pos (by first | decide | omega), h]
    · have := grew_s g
      rwa [show ((k + 1 : Nat) : Int) * s = k * s + s by rw [Int.natCast_add, Int.add_mul]; simp]
theorem M12n {rec : Int → Int → Int → zF → zB → zO} {K n : Nat} {F : zF} {B : zB} {P s r : Int} (p0 : 2 ≤ P) (p1 : P ≤ 7) (r0 : 1 ≤ r) (r1 : r ≤ 8) (hr : ¬ r % P = 0) : f_M_power_12 rec K (n + 1) P r s F B = rec (P + 1) r s F B := by
  have m0 : 0 ≤ r % P := Int.emod_nonneg _ (by first | decide | omega)
  have m1 : r % P < P := Int.emod_lt_of_pos _ (by first | decide | omega)
  unfold f_M_power_12
  rw [if_pos (iI_n0 (by first | decide | omega) (by first | decide | omega)), (zd8 (by first | decide | omega) r1 p0 p1).1, if_pos (by unfold r32; omega), if_neg hr]
def prN (q : Int) : Int := if q = 0 then 2 else if q = 1 then 3 else if q = 2 then 5 else 7
theorem C_mul {K : zK} {F : zF} {B : zB} {x s : Int} (h11 : 0 < K.2 11) (hK : 10 < K.1) (h0 : 1 ≤ x) (h1 : x ≤ 8) : ∃ B', f_Walker_multiplySlow K 0 x s F B = some (0, F, B') ∧ (∀ q, 0 ≤ q → q < 4 → B' 11 0 14 q = B 11 0 14 q + exN (prN q) x * s) ∧ ∀ c i k y, ¬ (c = 11 ∧ i = 0 ∧ k = 14) → B' c i k y = B c i k y := by
  obtain ⟨n, hn⟩ : ∃ m, K.1 = m + 5 := ⟨K.1 - 5, (by first | decide | omega)⟩
  obtain ⟨g3, g5, g7, g4, g6⟩ := exN_h h0 h1
  obtain ⟨a1, a2, a3, a4, a5⟩ := exN_e h0 h1 (p := 2) (by decide)
  obtain ⟨b1, b2, b3, b4, b5⟩ := exN_e a4 a5 (p := 3) (by decide)
  obtain ⟨c1, c2, c3, c4, c5⟩ := exN_e b4 b5 (p := 5) (by decide)
  obtain ⟨d1, d2, d3, d4, d5⟩ := exN_e c4 c5 (p := 7) (by decide)
  have st : ∀ (m : Nat) (q y : Int) (B : zB), 0 ≤ q → q < 4 → f_Walker_multiplySlow_5 K (m + 1) q y 0 s F B = f_Walker_multiplySlow_17 (f_Walker_multiplySlow_5 K m) K K.1 0 q y 0 s F B := fun m q y B u v => by
    rw [f_Walker_multiplySlow_5, zt6l, if_pos (by unfold r32; omega), if_pos (by decide), if_neg (by first | decide | omega)]
  have en : ∀ (m : Nat) (y : Int) (B : zB), f_Walker_multiplySlow_5 K (m + 1) 4 y 0 s F B = some (0, F, B) := fun m y B => by
    rw [f_Walker_multiplySlow_5, zt6l, if_pos (by decide), if_pos (by decide), if_pos (by decide)]
  obtain ⟨B1, e1, w1⟩ := M17 (rec := f_Walker_multiplySlow_5 K (n + 4)) (F := F) (s := s) h11 (q := 0) (by decide) zt6_0 (by decide) a4 a3 (exN 2 x) K.1 (l := 0) (B := B) (by decide) (by first | decide | omega) (by first | decide | omega) (by first | decide | omega)
  obtain ⟨B2, e2, w2⟩ := M17 (rec := f_Walker_multiplySlow_5 K (n + 3)) (F := F) (s := s) h11 (q := 1) (by decide) zt6_1 (by decide) b4 b3 (exN 3 (rmN 2 x)) K.1 (l := 0) (B := B1) (by decide) (by first | decide | omega) (by first | decide | omega) (by first | decide | omega)
  obtain ⟨B3, e3, w3⟩ := M17 (rec := f_Walker_multiplySlow_5 K (n + 2)) (F := F) (s := s) h11 (q := 2) (by decide) zt6_2 (by decide) c4 c3 (exN 5 (rmN 3 (rmN 2 x))) K.1 (l := 0) (B := B2) (by decide) (by first | decide | omega) (by first | decide | omega) (by first | decide | omega)
  obtain ⟨B4, e4, w4⟩ := M17 (rec := f_Walker_multiplySlow_5 K (n + 1)) (F := F) (s := s) h11 (q := 3) (by decide) zt6_3 (by decide) d4 d3 (exN 7 (rmN 5 (rmN 3 (rmN 2 x)))) K.1 (l := 0) (B := B3) (by decide) (by first | decide | omega) (by first | decide | omega) (by first | decide | omega)
  rw [← a2] at e1
  rw [← b2] at e2
  rw [← c2] at e3
  rw [← d2] at e4
  refine ⟨B4, ?_, ?_, ?_⟩
  · unfold f_Walker_multiplySlow
    rw [show f_Walker_multiplySlow_5 K K.1 0 x 0 s F B = f_Walker_multiplySlow_5 K (n + 4 + 1) 0 x 0 s F B by rw [← hn], st _ _ _ _ (by decide) (by decide), e1, show (0 : Int) + 1 = 1 by decide, st _ _ _ _ (by decide) (by decide), e2, show (1 : Int) + 1 = 2 by decide, st _ _ _ _ (by decide) (by decide), e3, show (2 : Int) + 1 = 3 by decide, st _ _ _ _ (by decide) (by decide), e4, show (3 : Int) + 1 = 4 by decide, en]
  · intro q q0 q1
    have hq : q = 0 ∨ q = 1 ∨ q = 2 ∨ q = 3 := by omega
    rcases hq with rfl | rfl | rfl | rfl
    · rw [w4.2 _ _ _ _ (by decide), w3.2 _ _ _ _ (by decide), w2.2 _ _ _ _ (by decide), w1.1]; rfl
    · rw [w4.2 _ _ _ _ (by decide), w3.2 _ _ _ _ (by decide), w2.1, w1.2 _ _ _ _ (by decide), g3]; rfl
    · rw [w4.2 _ _ _ _ (by decide), w3.1, w2.2 _ _ _ _ (by decide), w1.2 _ _ _ _ (by decide), g5]; rfl
    · rw [w4.1, w3.2 _ _ _ _ (by decide), w2.2 _ _ _ _ (by decide), w1.2 _ _ _ _ (by decide), g7]; rfl
  · intro c i k y h
    rw [w4.2 _ _ _ _ (by first | decide | omega), w3.2 _ _ _ _ (by first | decide | omega), w2.2 _ _ _ _ (by first | decide | omega), w1.2 _ _ _ _ (by first | decide | omega)]
theorem L_pow {K : Nat} {F : zF} {B : zB} {x s : Int} (hK : 10 < K) (h0 : 1 ≤ x) (h1 : x ≤ 8) : ∃ B', f_M_power K x s F B = some (0, F, B') ∧ (∀ q, 0 ≤ q → q < 4 → B' 14 0 51 (prN q) = B 14 0 51 (prN q) + exN (prN q) x * s) ∧ ∀ c i k y, ¬ (c = 14 ∧ i = 0 ∧ k = 51 ∧ (y = 2 ∨ y = 3 ∨ y = 5 ∨ y = 7)) → B' c i k y = B c i k y := by
  obtain ⟨n, hn⟩ : ∃ m, K = m + 7 := ⟨K - 7, (by first | decide | omega)⟩
  obtain ⟨g3, g5, g7, g4, g6⟩ := exN_h h0 h1
  obtain ⟨a1, a2, a3, a4, a5⟩ := exN_e h0 h1 (p := 2) (by decide)
  obtain ⟨b1, b2, b3, b4, b5⟩ := exN_e a4 a5 (p := 3) (by decide)
  obtain ⟨c1, c2, c3, c4, c5⟩ := exN_e b4 b5 (p := 5) (by decide)
  obtain ⟨d1, d2, d3, d4, d5⟩ := exN_e c4 c5 (p := 7) (by decide)
  have st : ∀ (m : Nat) (q y : Int) (B : zB), 0 ≤ q → q < 8 → f_M_power_5 K (m + 1) q y s F B = f_M_power_12 (f_M_power_5 K m) K K q y s F B := fun m q y B u v => by
    rw [f_M_power_5, if_pos (by unfold r32; omega), if_neg (by first | decide | omega)]
  have en : ∀ (m : Nat) (y : Int) (B : zB), f_M_power_5 K (m + 1) 8 y s F B = some (0, F, B) := fun m y B => by
    rw [f_M_power_5, if_pos (by decide), if_pos (by decide)]
  obtain ⟨B1, e1, w1⟩ := M12 (rec := f_M_power_5 K (n + 6)) (K := K) (F := F) (s := s) (P := 2) (by decide) a4 a3 (exN 2 x) K (B := B) (by first | decide | omega) (by first | decide | omega)
  obtain ⟨B2, e2, w2⟩ := M12 (rec := f_M_power_5 K (n + 5)) (K := K) (F := F) (s := s) (P := 3) (by decide) b4 b3 (exN 3 (rmN 2 x)) K (B := B1) (by first | decide | omega) (by first | decide | omega)
  obtain ⟨B3, e3, w3⟩ := M12 (rec := f_M_power_5 K (n + 3)) (K := K) (F := F) (s := s) (P := 5) (by decide) c4 c3 (exN 5 (rmN 3 (rmN 2 x))) K (B := B2) (by first | decide | omega) (by first | decide | omega)
  obtain ⟨B4, e4, w4⟩ := M12 (rec := f_M_power_5 K (n + 1)) (K := K) (F := F) (s := s) (P := 7) (by decide) d4 d3 (exN 7 (rmN 5 (rmN 3 (rmN 2 x)))) K (B := B3) (by first | decide | omega) (by first | decide | omega)
  rw [← a2] at e1
  rw [← b2] at e2
  rw [← c2] at e3
  rw [← d2] at e4
  have m4 : ∀ {rec : Int → Int → Int → zF → zB → zO} {B : zB}, f_M_power_12 rec K K 4 (rmN 3 (rmN 2 x)) s F B = rec (4 + 1) (rmN 3 (rmN 2 x)) s F B := fun {rec B} => by
    have := M12n (rec := rec) (K := K) (n := n + 6) (F := F) (B := B) (s := s) (P := 4) (by decide) (by decide) b4 b5 g4
    rwa [← hn] at this
  have m6 : ∀ {rec : Int → Int → Int → zF → zB → zO} {B : zB}, f_M_power_12 rec K K 6 (rmN 5 (rmN 3 (rmN 2 x))) s F B = rec (6 + 1) (rmN 5 (rmN 3 (rmN 2 x))) s F B := fun {rec B} => by
    have := M12n (rec := rec) (K := K) (n := n + 6) (F := F) (B := B) (s := s) (P := 6) (by decide) (by decide) c4 c5 g6
    rwa [← hn] at this
  refine ⟨B4, ?_, ?_, ?_⟩
  · unfold f_M_power
    rw [show f_M_power_5 K K 2 x s F B = f_M_power_5 K (n + 6 + 1) 2 x s F B by rw [← hn], st _ _ _ _ (by decide) (by decide), e1, show (2 : Int) + 1 = 3 by decide, st _ _ _ _ (by decide) (by decide), e2, show (3 : Int) + 1 = 4 by decide, st _ _ _ _ (by decide) (by decide), m4, show (4 : Int) + 1 = 5 by decide, st _ _ _ _ (by decide) (by decide), e3, show (5 : Int) + 1 = 6 by decide, st _ _ _ _ (by decide) (by decide), m6, show (6 : Int) + 1 = 7 by decide, st _ _ _ _ (by decide) (by decide), e4, show (7 : Int) + 1 = 8 by decide, en]
  · intro q q0 q1
    have hq : q = 0 ∨ q = 1 ∨ q = 2 ∨ q = 3 := by omega
    rcases hq with rfl | rfl | rfl | rfl
    · show B4 14 0 51 2 = _
      rw [w4.2 _ _ _ _ (by decide), w3.2 _ _ _ _ (by decide), w2.2 _ _ _ _ (by decide), w1.1]; rfl
    · show B4 14 0 51 3 = _
      rw [w4.2 _ _ _ _ (by decide), w3.2 _ _ _ _ (by decide), w2.1, w1.2 _ _ _ _ (by decide), g3]; rfl
    · show B4 14 0 51 5 = _
      rw [w4.2 _ _ _ _ (by decide), w3.1, w2.2 _ _ _ _ (by decide), w1.2 _ _ _ _ (by decide), g5]; rfl
    · show B4 14 0 51 7 = _
      rw [w4.1, w3.2 _ _ _ _ (by decide), w2.2 _ _ _ _ (by decide), w1.2 _ _ _ _ (by decide), g7]; rfl
  · intro c i k y h
    rw [w4.2 _ _ _ _ (by first | decide | omega), w3.2 _ _ _ _ (by first | decide | omega), w2.2 _ _ _ _ (by first | decide | omega), w1.2 _ _ _ _ (by first | decide | omega)]
end
end
section
section
/-! ===== a pitch carried through the moves and mirrors around ===== -/
theorem L_tonP {K : Nat} {s a : Int} {F : zF} {B : zB} (h0 : 0 ≤ s) (h1 : s ≤ 62) : f_M_tone K s a F B = some (tnv s + a, F, B) := by
  have h := nat_f ⟨s.toNat, (by first | decide | omega)⟩
  rw [show (((⟨s.toNat, (by first | decide | omega)⟩ : Fin 63).val : Nat) : Int) = s by show ((s.toNat : Nat) : Int) = s; omega] at h
  obtain ⟨_, _, d, r, _⟩ := h
  unfold f_M_tone f_M_tone_18 tnv
  rw [r, d, if_pos (by unfold r32; omega)]
  by_cases c : s % 7 ≤ 2
  · rw [if_pos c, if_pos c]
  · rw [if_neg c, if_neg c]
/-- what the class keeps of a move or a mirror, and the reference -/
def CRk (B Bm : zB) (k : Int) : Prop := ((Bm 14 0 42 k = 0 ∧ B 11 0 15 k = 1 ∧ B 11 0 16 k = Bm 14 0 43 k ∧ B 11 0 17 k = Bm 14 0 44 k) ∨ (Bm 14 0 42 k = 1 ∧ B 11 0 15 k = -1 ∧ B 11 0 16 k = 2 * Bm 14 0 43 k ∧ B 11 0 17 k = 2 * Bm 14 0 44 k)) ∧ (-200 ≤ B 11 0 16 k ∧ B 11 0 16 k ≤ 200) ∧ (-500 ≤ B 11 0 17 k ∧ B 11 0 17 k ≤ 500)
abbrev okP (s t : Int) : Prop := (0 ≤ s ∧ s ≤ 62) ∧ (-2 ≤ t - tnv s ∧ t - tnv s ≤ 2)
def crr (B : zB) : Nat → Int → Int → Option (Int × Int)
  | 0, s, t => some (s, t)
  | n + 1, s, t => if okP (B 11 0 16 n + B 11 0 15 n * s) (B 11 0 17 n + B 11 0 15 n * t) then crr B n (B 11 0 16 n + B 11 0 15 n * s) (B 11 0 17 n + B 11 0 15 n * t) else none
theorem crr_ok {B : zB} : ∀ {n : Nat} {s t s' t' : Int}, okP s t → crr B n s t = some (s', t') → okP s' t' := by
  intro n
  induction n with
  | zero =>
    intro s t s' t' h e
    simp only [crr, Option.some.injEq, Prod.mk.injEq] at e
    rw [← e.1, ← e.2]
    exact h
  | succ n ih =>
    intro s t s' t' h e
    simp only [crr] at e
    by_cases c : okP (B 11 0 16 n + B 11 0 15 n * s) (B 11 0 17 n + B 11 0 15 n * t)
    · rw [if_pos c] at e
      exact ih c e
    · rw [if_neg c] at e
      exact absurd e (by simp)
def crC (K : zK) (e pt : Int) (F : zF) (B : zB) : Option (Int × Int) → zO
  | some (s, t) => f_Walker_addPitch_122 K 1 t s 0 e pt F B
  | none => f_Walker_addPitch_142 K 0 pt F B
theorem C37x {K : zK} {e pt l t s : Int} {F : zF} {B : zB} {m : Nat} (hl : r32 l) : f_Walker_addPitch_37 K (m + 1) l 0 t s 0 e pt F B = f_Walker_addPitch_142 K 0 pt F B := by
  have z : ∀ F B, f_Walker_addPitch_122 K 0 t s 0 e pt F B = f_Walker_addPitch_142 K 0 pt F B := fun F B => by
    unfold f_Walker_addPitch_122
    rw [if_pos (by decide), if_pos rfl]
  unfold f_Walker_addPitch_37
  rw [if_pos hl]
  by_cases c : l < 0
  · rw [if_pos c, z]
  · rw [if_neg c, if_pos (by decide), if_pos rfl, z]
theorem C37 {K : zK} {e pt : Int} {F : zF} {B Bm : zB} (h11 : 0 < K.2 11) : ∀ (n m : Nat) {s t : Int}, n + 1 < m → n ≤ 64 → (∀ k, 0 ≤ k → k < n → CRk B Bm k) → okP s t → f_Walker_addPitch_37 K m ((n : Int) - 1) 1 t s 0 e pt F B = crC K e pt F B (crr B n s t) := by
  intro n
  induction n with
  | zero =>
    intro m s t hm h64 hc ok
    obtain ⟨m, rfl⟩ : ∃ x, m = x + 1 := ⟨m - 1, (by first | decide | omega)⟩
    unfold f_Walker_addPitch_37
    rw [if_pos (by decide), if_pos (by decide)]
    rfl
  | succ n ih =>
    intro m s t hm h64 hc ok
    obtain ⟨m, rfl⟩ : ∃ x, m = x + 1 := ⟨m - 1, (by first | decide | omega)⟩
    obtain ⟨m', rfl⟩ : ∃ x, m = x + 1 := ⟨m - 1, (by first | decide | omega)⟩
    have hk := hc n (by first | decide | omega) (by first | decide | omega)
    obtain ⟨⟨s0, s1⟩, t0, t1⟩ := ok
    have tb := tnv_b s0 s1
    rw [show ((n + 1 : Nat) : Int) - 1 = (n : Int) by omega, crr]
    have bs : -300 ≤ B 11 0 16 n + B 11 0 15 n * s ∧ B 11 0 16 n + B 11 0 15 n * s ≤ 300 := by
      obtain ⟨hh, b1, b2⟩ := hk
      rcases hh with ⟨_, e, _⟩ | ⟨_, e, _⟩ <;> rw [e] <;> omega
    have bt : -1000 ≤ B 11 0 17 n + B 11 0 15 n * t ∧ B 11 0 17 n + B 11 0 15 n * t ≤ 1000 := by
      obtain ⟨hh, b1, b2⟩ := hk
      rcases hh with ⟨_, e, _⟩ | ⟨_, e, _⟩ <;> rw [e] <;> omega
    generalize hs : B 11 0 16 n + B 11 0 15 n * s = s' at bs ⊢
    generalize ht : B 11 0 17 n + B 11 0 15 n * t = t' at bt ⊢
    unfold f_Walker_addPitch_37 f_Walker_addPitch_113 f_Walker_addPitch_114
    rw [if_pos (by unfold r32; omega), if_neg (by first | decide | omega), if_pos (by decide), if_neg (by decide), if_pos ⟨Int.le_refl _, h11⟩, if_pos (by first | decide | omega), hs, ht, if_pos (by unfold r32; omega)]
    by_cases c1 : s' < 0
    · rw [if_pos c1, C37x (by unfold r32; omega), if_neg (fun z => by have := z.1; omega)]
      rfl
    rw [if_neg c1]
    by_cases c2 : 63 ≤ s'
    · rw [if_pos c2, C37x (by unfold r32; omega), if_neg (fun z => by have := z.1; omega)]
      rfl
    have tb' := tnv_b (s := s') (by first | decide | omega) (by first | decide | omega)
    have za : zabs (t' - tnv s') = t' - tnv s' ∨ zabs (t' - tnv s') = -(t' - tnv s') := by unfold zabs; split <;> omega
    have zn : 0 ≤ zabs (t' - tnv s') := by unfold zabs; split <;> omega
    rw [if_neg c2, C_nat (by first | decide | omega) (by first | decide | omega), zb_s, if_pos (by unfold r32; omega), if_pos (by unfold r32; omega)]
    by_cases c3 : 2 < zabs (t' - tnv s')
    · rw [if_pos c3, C37x (by unfold r32; omega), if_neg (fun z => by have := z.2; omega)]
      rfl
    · have ok' : okP s' t' := ⟨(by first | decide | omega), (by first | decide | omega)⟩
      rw [if_neg c3, if_pos ok', ih (m' + 1) (by first | decide | omega) (by first | decide | omega) (fun k a b => hc k a (by first | decide | omega)) ok']
def crM (K : Nat) (x p : Int) (F : zF) (B : zB) : Option (Int × Int) → zO
  | some (s, t) => f_M_pitchOf_184 K K (6 * x) (6 * x + B 13 (F 14 0 6) 21 x) (6 * x) t s x p F B
  | none => f_M_pitchOf_146 K p F B
theorem L32 {K : Nat} {x p : Int} {F : zF} {B Bm : zB} (h6 : 0 ≤ F 14 0 6 ∧ F 14 0 6 < 3) (hx : 0 ≤ x ∧ x < 4000) : ∀ (n m : Nat) {s t : Int}, n < m → n ≤ 64 → (∀ k, 0 ≤ k → k < n → CRk B Bm k) → okP s t → f_M_pitchOf_32 K m ((n : Int) - 1) t s x p F Bm = crM K x p F Bm (crr B n s t) := by
  intro n
  induction n with
  | zero =>
    intro m s t hm h64 hc ok
    obtain ⟨m, rfl⟩ : ∃ x, m = x + 1 := ⟨m - 1, (by first | decide | omega)⟩
    unfold f_M_pitchOf_32
    rw [if_pos (by decide), if_pos (by decide), if_pos h6, if_pos hx]
    rfl
  | succ n ih =>
    intro m s t hm h64 hc ok
    obtain ⟨m, rfl⟩ : ∃ x, m = x + 1 := ⟨m - 1, (by first | decide | omega)⟩
    have hk := hc n (by first | decide | omega) (by first | decide | omega)
    obtain ⟨⟨s0, s1⟩, t0, t1⟩ := ok
    have tb := tnv_b s0 s1
    rw [show ((n + 1 : Nat) : Int) - 1 = (n : Int) by omega, crr]
    have fin : ∀ s' t', -300 ≤ s' → s' ≤ 300 → -1000 ≤ t' → t' ≤ 1000 → f_M_pitchOf_106 (f_M_pitchOf_32 K m) K s' n x p t' F Bm = crM K x p F Bm (if okP s' t' then crr B n s' t' else none) := by
      intro s' t' b1 b2 b3 b4
      unfold f_M_pitchOf_106 f_M_pitchOf_118 f_M_pitchOf_131
      rw [if_pos (by unfold r32; omega)]
      by_cases c1 : s' < 0
      · rw [if_pos c1, if_pos (by decide), if_neg (by decide), if_neg (by decide), if_neg (fun z => by have := z.1; omega)]
        rfl
      rw [if_neg c1]
      by_cases c2 : s' ≤ 62
      case neg =>
        rw [if_neg c2, if_pos (by decide), if_neg (by decide), if_neg (by decide), if_neg (fun z => by have := z.1; omega)]
        rfl
      have tb' := tnv_b (s := s') (by first | decide | omega) c2
      rw [if_pos c2, L_tonP (by first | decide | omega) c2, zb_s, Int.add_zero, if_pos (by unfold r32; omega)]
      by_cases c3 : t' - tnv s' < -2
      · rw [if_pos c3, if_neg (fun z => by have := z.2; omega)]
        rfl
      rw [if_neg c3]
      by_cases c4 : t' - tnv s' ≤ 2
      · have ok' : okP s' t' := ⟨(by first | decide | omega), (by first | decide | omega)⟩
        rw [if_pos c4, if_pos ok', ih m (by first | decide | omega) (by first | decide | omega) (fun k a b => hc k a (by first | decide | omega)) ok']
      · rw [if_neg c4, if_neg (fun z => by have := z.2; omega)]
        rfl
    unfold f_M_pitchOf_32 f_M_pitchOf_70
    rw [if_pos (by unfold r32; omega), if_neg (by first | decide | omega), if_pos (by first | decide | omega), if_pos (by rcases hk.1 with ⟨e, _⟩ | ⟨e, _⟩ <;> rw [e] <;> decide)]
    obtain ⟨hh, b1, b2⟩ := hk
    rcases hh with ⟨e, e1, e2, e3⟩ | ⟨e, e1, e2, e3⟩
    · rw [if_pos e, if_pos (by first | decide | omega), if_pos (by rw [e]; decide), if_pos e, fin _ _ (by first | decide | omega) (by first | decide | omega) (by first | decide | omega) (by first | decide | omega), e1, e2, e3, Int.one_mul, Int.one_mul, Int.add_comm s, Int.add_comm t]
    · rw [if_neg (by first | decide | omega), if_pos (by first | decide | omega), if_pos (by rw [e]; decide), if_neg (by first | decide | omega), fin _ _ (by first | decide | omega) (by first | decide | omega) (by first | decide | omega) (by first | decide | omega), e1, e2, e3, show 2 * Bm 14 0 43 n + -1 * s = 2 * Bm 14 0 43 n - s by omega, show 2 * Bm 14 0 44 n + -1 * t = 2 * Bm 14 0 44 n - t by omega]
end
end
section
section
/-! ===== a pitch put into its event ===== -/
def shf (a top v : Int) (g : Int → Int) (k : Int) : Int := if k = a then v else if a < k ∧ k ≤ top then g (k - 1) else g k
theorem shf_s {a top v : Int} {g g' : Int → Int} (h : a < top) (h1 : ∀ k, ¬ k = top → g' k = g k) (h2 : g' top = g (top - 1)) (k : Int) : shf a (top - 1) v g' k = shf a top v g k := by
  unfold shf
  by_cases c : k = a
  · rw [if_pos c, if_pos c]
  · rw [if_neg c, if_neg c]
    by_cases d : a < k ∧ k ≤ top - 1
    · rw [if_pos d, if_pos (by first | decide | omega), h1 _ (by first | decide | omega)]
    · rw [if_neg d]
      by_cases e : k = top
      · rw [if_pos (by first | decide | omega), e, h2]
      · rw [if_neg (by first | decide | omega), h1 _ e]
theorem shf_0 {a v : Int} {g g' : Int → Int} (h1 : ∀ k, ¬ k = a → g' k = g k) (h2 : g' a = v) (k : Int) : g' k = shf a a v g k := by
  unfold shf
  by_cases c : k = a
  · rw [if_pos c, c, h2]
  · rw [if_neg c, if_neg (by first | decide | omega), h1 _ c]
theorem C75 {K : zK} {F : zF} {e s al a : Int} (he : 0 ≤ e ∧ e < K.2 1) (a0 : 0 ≤ a) : ∀ (j n : Nat) {l : Int} {B : zB}, l = a + j → l ≤ 5 → j < n → ∃ B', f_Event_insert_75 K n l a e s al F B = some (1, zup3 F 1 e 10 (F 1 e 10 + 1), B') ∧ (∀ k, B' 1 e 12 k = shf a l s (B 1 e 12) k) ∧ (∀ k, B' 1 e 13 k = shf a l al (B 1 e 13) k) ∧ ∀ c i k y, ¬ (c = 1 ∧ i = e ∧ (k = 12 ∨ k = 13)) → B' c i k y = B c i k y := by
  intro j
  induction j with
  | zero =>
    intro n l B hl h5 hn
    obtain ⟨n, rfl⟩ : ∃ m, n = m + 1 := ⟨n - 1, (by first | decide | omega)⟩
    have hl : l = a := by omega
    subst hl
    refine ⟨_, by unfold f_Event_insert_75; rw [if_pos (by unfold r32; omega), if_pos (by unfold r32; omega), if_pos (by first | decide | omega), if_pos he, if_pos (by first | decide | omega)], ?_, ?_, ?_⟩
    · exact fun k => shf_0 (fun k h => by rw [zup4_v, if_neg (by first | decide | omega), zup4_v, if_neg (by first | decide | omega)]) (by rw [zup4_v, if_neg (by first | decide | omega), zup4_v, if_pos (by first | decide | omega)]) k
    · exact fun k => shf_0 (fun k h => by rw [zup4_v, if_neg (by first | decide | omega), zup4_v, if_neg (by first | decide | omega)]) (by rw [zup4_v, if_pos (by first | decide | omega)]) k
    · intro c i k y h
      rw [zup4_v, if_neg (by first | decide | omega), zup4_v, if_neg (by first | decide | omega)]
  | succ j ih =>
    intro n l B hl h5 hn
    obtain ⟨n, rfl⟩ : ∃ m, n = m + 1 := ⟨n - 1, (by first | decide | omega)⟩
    obtain ⟨B', h, g1, g2, g3⟩ := ih n (l := l - 1) (B := zup4 (zup4 B 1 e 12 l (B 1 e 12 (l - 1))) 1 e 13 l ((zup4 B 1 e 12 l (B 1 e 12 (l - 1))) 1 e 13 (l - 1))) (by first | decide | omega) (by first | decide | omega) (by first | decide | omega)
    refine ⟨B', ?_, ?_, ?_, ?_⟩
    · unfold f_Event_insert_75
      rw [if_pos (by unfold r32; omega), if_pos (by unfold r32; omega), if_neg (by first | decide | omega), if_pos he, if_pos (by first | decide | omega), if_pos (by first | decide | omega), h]
    · intro k
      rw [g1, shf_s (g := B 1 e 12) (by first | decide | omega) (fun k h => by rw [zup4_v, if_neg (by first | decide | omega), zup4_v, if_neg (by first | decide | omega)]) (by rw [zup4_v, if_neg (by first | decide | omega), zup4_v, if_pos (by first | decide | omega)])]
    · intro k
      rw [g2, shf_s (g := B 1 e 13) (by first | decide | omega) (fun k h => by rw [zup4_v, if_neg (by first | decide | omega), zup4_v, if_neg (by first | decide | omega)]) (by rw [zup4_v, if_pos (by first | decide | omega), zup4_v, if_neg (by first | decide | omega)])]
    · intro c i k y h
      rw [g3 c i k y h, zup4_v, if_neg (by first | decide | omega), zup4_v, if_neg (by first | decide | omega)]
theorem C24 {K : zK} {F : zF} {B : zB} {e s al : Int} (he : 0 ≤ e ∧ e < K.2 1) (hs : r32 s) {c0 : Int} (hc0 : c0 ≤ 6) (hb : ∀ k, 0 ≤ k → k < c0 → r32 (B 1 e 12 k)) : ∀ (j n : Nat), j ≤ c0 → j < n → ∃ a, f_Event_insert_24 K n ((j : Int) - 1) j e s al F B = f_Event_insert_49 K a e s al F B ∧ (0 ≤ a ∧ a ≤ j) ∧ (∀ k, a ≤ k → k < j → s ≤ B 1 e 12 k) ∧ (a = 0 ∨ B 1 e 12 (a - 1) < s) := by
  intro j
  induction j with
  | zero =>
    intro n h6 hn
    obtain ⟨n, rfl⟩ : ∃ m, n = m + 1 := ⟨n - 1, (by first | decide | omega)⟩
    refine ⟨0, ?_, (by first | decide | omega), fun k a b => (by first | decide | omega), Or.inl rfl⟩
    unfold f_Event_insert_24
    rw [if_pos (by decide), if_pos (by decide)]
    rfl
  | succ j ih =>
    intro n h6 hn
    obtain ⟨n, rfl⟩ : ∃ m, n = m + 1 := ⟨n - 1, (by first | decide | omega)⟩
    rw [show ((j + 1 : Nat) : Int) - 1 = (j : Int) by omega]
    have st : f_Event_insert_24 K (n + 1) j ((j + 1 : Nat) : Int) e s al F B = if B 1 e 12 j < s then f_Event_insert_49 K ((j + 1 : Nat) : Int) e s al F B else f_Event_insert_24 K n ((j : Int) - 1) j e s al F B := by
      rw [f_Event_insert_24, if_pos (by unfold r32; omega), if_neg (by first | decide | omega), if_pos he, if_pos (by first | decide | omega), if_pos (hb j (by first | decide | omega) (by first | decide | omega)), if_pos hs]
    rw [st]
    by_cases c : B 1 e 12 j < s
    · exact ⟨((j + 1 : Nat) : Int), by rw [if_pos c], (by first | decide | omega), fun k a b => (by first | decide | omega), Or.inr (by rw [show ((j + 1 : Nat) : Int) - 1 = (j : Int) by omega]; exact c)⟩
    · obtain ⟨a, h1, h2, h3, h4⟩ := ih n (by first | decide | omega) (by first | decide | omega)
      refine ⟨a, by rw [if_neg c, h1], (by first | decide | omega), fun k p q => ?_, h4⟩
      by_cases z : k = j
      · rw [z]; omega
      · exact h3 k p (by first | decide | omega)
/-- one event's pitches on both sides -/
def EPR (e x w c : Int) (F : zF) (B Bm : zB) : Prop := F 1 e 10 = c ∧ Bm 13 w 21 x = c ∧ (0 ≤ c ∧ c ≤ 6) ∧ (∀ k, 0 ≤ k → k < c → B 1 e 12 k = Bm 13 w 28 (6 * x + k) ∧ B 1 e 13 k = Bm 13 w 29 (6 * x + k) ∧ (0 ≤ B 1 e 12 k ∧ B 1 e 12 k ≤ 62) ∧ (-2 ≤ B 1 e 13 k ∧ B 1 e 13 k ≤ 2)) ∧ (∀ j k, 0 ≤ j → j < k → k < c → B 1 e 12 j < B 1 e 12 k)
theorem L_failAtB {K : Nat} {F : zF} {B : zB} {s i : Int} (h : bad F) : f_M_failAt K s i F B = some (0, F, B) := by
  unfold bad at h
  unfold f_M_failAt
  rw [if_pos (by unfold r32; omega), if_neg (by first | decide | omega)]
theorem L184b {K : Nat} {F : zF} {B : zB} {w f t s x p h : Int} (hw : F 14 0 6 = w) (h6 : 0 ≤ w ∧ w < 3) (hB : bad F) (hs : r32 s) (hp : 0 ≤ p ∧ p < 3001) (hh : 0 ≤ h ∧ h ≤ 24000) (hr : ∀ k, 0 ≤ k → k < h → f ≤ k → r32 (B 13 w 28 k)) : ∀ (j n : Nat) {l : Int}, 0 ≤ l → f ≤ l → l ≤ h → (h - l).toNat = j → j < n → f_M_pitchOf_184 K n l h f t s x p F B = some (0, F, B) := by
  intro j
  induction j with
  | zero =>
    intro n l l0 lf l1 hj hn
    obtain ⟨n, rfl⟩ : ∃ m, n = m + 1 := ⟨n - 1, (by first | decide | omega)⟩
    unfold f_M_pitchOf_184
    rw [if_pos (by unfold r32; omega), if_pos (by unfold r32; omega), if_pos (by first | decide | omega), L_goodB hB, zb_s, if_pos (by decide), if_pos rfl]
  | succ j ih =>
    intro n l l0 lf l1 hj hn
    obtain ⟨n, rfl⟩ : ∃ m, n = m + 1 := ⟨n - 1, (by first | decide | omega)⟩
    unfold f_M_pitchOf_184 f_M_pitchOf_212
    rw [hw, if_pos (by unfold r32; omega), if_pos (by unfold r32; omega), if_neg (by first | decide | omega), if_pos h6, if_pos (by first | decide | omega), if_pos (hr l (by first | decide | omega) (by first | decide | omega) lf), if_pos hs, L_failAtB hB, zb_s, ih n (by first | decide | omega) (by first | decide | omega) (by first | decide | omega) (by first | decide | omega) (by first | decide | omega)]
    split <;> rfl
theorem L184n {K : Nat} {F : zF} {B : zB} {w f t s x p h : Int} (hw : F 14 0 6 = w) (h6 : 0 ≤ w ∧ w < 3) (hB : F 14 0 17 = 0) (hs : r32 s) (hh : 0 ≤ h ∧ h ≤ 24000) (hr : ∀ k, 0 ≤ k → k < h → f ≤ k → r32 (B 13 w 28 k) ∧ ¬ B 13 w 28 k = s) : ∀ (j n : Nat) {l : Int}, 0 ≤ l → f ≤ l → l ≤ h → (h - l).toNat = j → j < n → f_M_pitchOf_184 K n l h f t s x p F B = f_M_pitchOf_226 K K h f t s x F B := by
  intro j
  induction j with
  | zero =>
    intro n l l0 lf l1 hj hn
    obtain ⟨n, rfl⟩ : ∃ m, n = m + 1 := ⟨n - 1, (by first | decide | omega)⟩
    unfold f_M_pitchOf_184
    rw [if_pos (by unfold r32; omega), if_pos (by unfold r32; omega), if_pos (by first | decide | omega), L_good hB, zb_s, if_pos (by decide), if_neg (by decide)]
  | succ j ih =>
    intro n l l0 lf l1 hj hn
    obtain ⟨n, rfl⟩ : ∃ m, n = m + 1 := ⟨n - 1, (by first | decide | omega)⟩
    unfold f_M_pitchOf_184 f_M_pitchOf_212
    rw [hw, if_pos (by unfold r32; omega), if_pos (by unfold r32; omega), if_neg (by first | decide | omega), if_pos h6, if_pos (by first | decide | omega), if_pos (hr l (by first | decide | omega) (by first | decide | omega) lf).1, if_pos hs, if_neg (hr l (by first | decide | omega) (by first | decide | omega) lf).2, ih n (by first | decide | omega) (by first | decide | omega) (by first | decide | omega) (by first | decide | omega) (by first | decide | omega)]
/-- the reference's fault at a token -/
def flM (F : zF) (B : zB) (s i : Int) : zF := zup3 (zup3 F 14 0 17 s) 14 0 18 (B 14 0 8 i)
theorem L_failAt {K : Nat} {F : zF} {B : zB} {s i : Int} (h : F 14 0 17 = 0) (hi : 0 ≤ i ∧ i < 3001) : f_M_failAt K s i F B = some (0, flM F B s i, B) := by
  unfold f_M_failAt flM
  rw [h, if_pos (by decide), if_pos (by decide), if_pos hi]
theorem flM_17 {F : zF} {B : zB} {s i : Int} : flM F B s i 14 0 17 = s := by
  unfold flM
  rw [zup3_v, if_neg (by decide), zup3_v, if_pos (by decide)]
theorem flM_18 {F : zF} {B : zB} {s i : Int} : flM F B s i 14 0 18 = B 14 0 8 i := by
  unfold flM
  rw [zup3_v, if_pos (by decide)]
theorem flM_n {F : zF} {B : zB} {s i : Int} {c k : Nat} {y : Int} (h : ¬ (c = 14 ∧ y = 0 ∧ (k = 17 ∨ k = 18))) : flM F B s i c y k = F c y k := by
  unfold flM
  rw [zup3_v, if_neg (by first | decide | omega), zup3_v, if_neg (by first | decide | omega)]
theorem flM_b {F : zF} {B : zB} {s i : Int} (h : 1 ≤ s) (h' : s ≤ 15) : bad (flM F B s i) := by
  unfold bad
  rw [flM_17]
  exact ⟨h, h'⟩
theorem L184y {K : Nat} {F : zF} {B : zB} {w f t s x p h a : Int} (hw : F 14 0 6 = w) (h6 : 0 ≤ w ∧ w < 3) (hB : F 14 0 17 = 0) (hs : r32 s) (hp : 0 ≤ p ∧ p < 3001) (hh : 0 ≤ h ∧ h ≤ 24000) (hr : ∀ k, 0 ≤ k → k < h → f ≤ k → r32 (B 13 w 28 k)) (ha : B 13 w 28 a = s) (ah : a < h) : ∀ (j n : Nat) {l : Int}, 0 ≤ l → f ≤ l → l ≤ a → (h - l).toNat = j → j < n → f_M_pitchOf_184 K n l h f t s x p F B = some (0, flM F B 9 p, B) := by
  intro j
  induction j with
  | zero => intro n l l0 lf l1 hj hn; omega
  | succ j ih =>
    intro n l l0 lf l1 hj hn
    obtain ⟨n, rfl⟩ : ∃ m, n = m + 1 := ⟨n - 1, (by first | decide | omega)⟩
    unfold f_M_pitchOf_184 f_M_pitchOf_212
    rw [hw, if_pos (by unfold r32; omega), if_pos (by unfold r32; omega), if_neg (by first | decide | omega), if_pos h6, if_pos (by first | decide | omega), if_pos (hr l (by first | decide | omega) (by first | decide | omega) lf), if_pos hs]
    by_cases c : B 13 w 28 l = s
    · rw [if_pos c, L_failAt hB hp, zb_s, L184b (by rw [flM_n (by decide)]; exact hw) h6 (flM_b (by decide) (by decide)) hs hp hh hr j n (by first | decide | omega) (by first | decide | omega) (by first | decide | omega) (by first | decide | omega) (by first | decide | omega)]
    · have la : ¬ l = a := fun z => c (by rw [z]; exact ha)
      rw [if_neg c, ih n (by first | decide | omega) (by first | decide | omega) (by first | decide | omega) (by first | decide | omega) (by first | decide | omega)]
theorem L226 {K : Nat} {F : zF} {w t s x a f : Int} (hw : F 14 0 6 = w) (h6 : 0 ≤ w ∧ w < 3) (s0 : 0 ≤ s) (s1 : s ≤ 62) (hx : 0 ≤ x ∧ x < 4000) (f0 : 0 ≤ f) (fa : f ≤ a) : ∀ (j n : Nat) {l : Int} {B : zB}, l = a + j → l < 24000 → j < n → (∀ k, f ≤ k → k < l → r32 (B 13 w 28 k)) → (∀ k, a ≤ k → k < l → s < B 13 w 28 k) → (a = f ∨ B 13 w 28 (a - 1) ≤ s) → ∃ B', f_M_pitchOf_226 K n l f t s x F B = some (0, F, B') ∧ (∀ k, B' 13 w 28 k = shf a l s (B 13 w 28) k) ∧ (∀ k, B' 13 w 29 k = shf a l (t - tnv s) (B 13 w 29) k) ∧ B' 13 w 21 x = B 13 w 21 x + 1 ∧ ∀ c i k y, ¬ (c = 13 ∧ i = w ∧ (k = 28 ∨ k = 29 ∨ (k = 21 ∧ y = x))) → B' c i k y = B c i k y := by
  intro j
  induction j with
  | zero =>
    intro n l B hl h5 hn hr hg hm
    obtain ⟨n, rfl⟩ : ∃ m, n = m + 1 := ⟨n - 1, (by first | decide | omega)⟩
    have hl : l = a := by omega
    subst hl
    have e99 : f_M_pitchOf_226 K (n + 1) l f t s x F B = f_M_pitchOf_299 K l t s x F B := by
      unfold f_M_pitchOf_226
      rw [hw, if_pos (by unfold r32; omega), if_pos (by unfold r32; omega)]
      by_cases c : l ≤ f
      · rw [if_pos c]
      · rw [if_neg c, if_pos h6, if_pos (by first | decide | omega), if_pos (hr (l - 1) (by first | decide | omega) (by first | decide | omega) |> fun z => z), if_pos (by unfold r32; omega), if_pos (by first | decide | omega)]
    refine ⟨_, by rw [e99]; unfold f_M_pitchOf_299; rw [hw, if_pos h6, if_pos (by first | decide | omega), L_tonP s0 s1, zb_s, hw, if_pos h6, if_pos hx, Int.add_zero], ?_, ?_, ?_, ?_⟩
    · exact fun k => shf_0 (fun k h => by rw [zup4_v, if_neg (by first | decide | omega), zup4_v, if_neg (by first | decide | omega), zup4_v, if_neg (by first | decide | omega)]) (by rw [zup4_v, if_neg (by first | decide | omega), zup4_v, if_neg (by first | decide | omega), zup4_v, if_pos (by first | decide | omega)]) k
    · exact fun k => shf_0 (fun k h => by rw [zup4_v, if_neg (by first | decide | omega), zup4_v, if_neg (by first | decide | omega), zup4_v, if_neg (by first | decide | omega)]) (by rw [zup4_v, if_neg (by first | decide | omega), zup4_v, if_pos (by first | decide | omega)]) k
    · rw [zup4_v, if_pos (by first | decide | omega), zup4_v, if_neg (by first | decide | omega), zup4_v, if_neg (by first | decide | omega)]
    · intro c i k y h
      rw [zup4_v, if_neg (by first | decide | omega), zup4_v, if_neg (by first | decide | omega), zup4_v, if_neg (by first | decide | omega)]
  | succ j ih =>
    intro n l B hl h5 hn hr hg hm
    obtain ⟨n, rfl⟩ : ∃ m, n = m + 1 := ⟨n - 1, (by first | decide | omega)⟩
    have e : ∀ k, ¬ k = l → (zup4 (zup4 B 13 w 28 l (B 13 w 28 (l - 1))) 13 w 29 l ((zup4 B 13 w 28 l (B 13 w 28 (l - 1))) 13 w 29 (l - 1))) 13 w 28 k = B 13 w 28 k := fun k h => by rw [zup4_v, if_neg (by first | decide | omega), zup4_v, if_neg (by first | decide | omega)]
    obtain ⟨B', h, g1, g2, g3, g4⟩ := ih n (l := l - 1) (B := zup4 (zup4 B 13 w 28 l (B 13 w 28 (l - 1))) 13 w 29 l ((zup4 B 13 w 28 l (B 13 w 28 (l - 1))) 13 w 29 (l - 1))) (by first | decide | omega) (by first | decide | omega) (by first | decide | omega) (fun k p q => by rw [e k (by first | decide | omega)]; exact hr k p (by first | decide | omega)) (fun k p q => by rw [e k (by first | decide | omega)]; exact hg k p (by first | decide | omega)) (by rw [e (a - 1) (by first | decide | omega)]; exact hm)
    have gl := hg (l - 1) (by first | decide | omega) (by first | decide | omega)
    refine ⟨B', ?_, ?_, ?_, ?_, ?_⟩
    · unfold f_M_pitchOf_226
      rw [hw, if_pos (by unfold r32; omega), if_pos (by unfold r32; omega), if_neg (by first | decide | omega), if_pos h6, if_pos (by first | decide | omega), if_pos (hr (l - 1) (by first | decide | omega) (by first | decide | omega)), if_pos (by unfold r32; omega), if_neg (by first | decide | omega), if_pos (by first | decide | omega), h]
    · intro k
      rw [g1, shf_s (g := B 13 w 28) (by first | decide | omega) e (by rw [zup4_v, if_neg (by first | decide | omega), zup4_v, if_pos (by first | decide | omega)])]
    · intro k
      rw [g2, shf_s (g := B 13 w 29) (by first | decide | omega) (fun k h => by rw [zup4_v, if_neg (by first | decide | omega), zup4_v, if_neg (by first | decide | omega)]) (by rw [zup4_v, if_pos (by first | decide | omega), zup4_v, if_neg (by first | decide | omega)])]
    · rw [g3, zup4_v, if_neg (by first | decide | omega), zup4_v, if_neg (by first | decide | omega)]
    · intro c i k y h
      rw [g4 c i k y h, zup4_v, if_neg (by first | decide | omega), zup4_v, if_neg (by first | decide | omega)]
end
end
section
section
/-! ===== one pitch of an event, both sides ===== -/
theorem C_wref {K : zK} {F : zF} {B : zB} {s p : Int} (h11 : 0 < K.2 11) (h : F 11 0 2 = 0) : f_Walker_refuse K 0 s p F B = some (0, zup3 F 11 0 2 (s + 16 * p), B) := by
  unfold f_Walker_refuse f_Walker_refuse_17
  rw [if_pos ⟨Int.le_refl _, h11⟩, h, if_pos (by decide), if_pos rfl]
theorem C_wrefB {K : zK} {F : zF} {B : zB} {s p : Int} (h11 : 0 < K.2 11) (h : r32 (F 11 0 2)) (h' : ¬ F 11 0 2 = 0) : f_Walker_refuse K 0 s p F B = some (0, F, B) := by
  unfold f_Walker_refuse f_Walker_refuse_17
  rw [if_pos ⟨Int.le_refl _, h11⟩, if_pos h, if_neg h']
theorem shf_a {a l v k : Int} {g : Int → Int} (h : k = a) : shf a l v g k = v := by
  unfold shf
  rw [if_pos h]
theorem shf_m {a l v k : Int} {g : Int → Int} (h : a < k) (h' : k ≤ l) : shf a l v g k = g (k - 1) := by
  unfold shf
  rw [if_neg (by first | decide | omega), if_pos ⟨h, h'⟩]
theorem shf_o {a l v k : Int} {g : Int → Int} (h : k < a ∨ (l < k ∧ ¬ k = a)) : shf a l v g k = g k := by
  unfold shf
  rw [if_neg (by first | decide | omega), if_neg (by first | decide | omega)]
def pOK (e x w c : Int) (F : zF) (B : zB) (Fm : zF) (Bm : zB) (F' : zF) (B' : zB) (Fm' : zF) (Bm' : zB) : Prop := F' = zup3 F 1 e 10 (c + 1) ∧ Fm' = Fm ∧ EPR e x w (c + 1) F' B' Bm' ∧ (∀ c i k y, ¬ (c = 1 ∧ i = e ∧ (k = 12 ∨ k = 13)) → B' c i k y = B c i k y) ∧ (∀ c i k y, ¬ (c = 13 ∧ i = w ∧ (((k = 28 ∨ k = 29) ∧ 6 * x ≤ y ∧ y < 6 * x + 6) ∨ (k = 21 ∧ y = x))) → Bm' c i k y = Bm c i k y)
def pNO (p : Int) (F : zF) (B : zB) (Fm : zF) (Bm : zB) (F' : zF) (B' : zB) (Fm' : zF) (Bm' : zB) : Prop := F' = zup3 F 11 0 2 (9 + 16 * Bm 14 0 8 p) ∧ B' = B ∧ Fm' = flM Fm Bm 9 p ∧ Bm' = Bm
theorem P_pitch {K : zK} {Km : Nat} {e x w c p pt : Int} {n : Nat} {F : zF} {B : zB} {Fm : zF} {Bm : zB} (hK : 100 < K.1) (hKm : 100 < Km) (h11 : 0 < K.2 11) (h3 : 0 < K.2 3) (hE : EPR e x w c F B Bm) (c5 : c ≤ 5) (he : 0 ≤ e ∧ e < K.2 1) (hx : 0 ≤ x ∧ x < 4000) (h0 : F 11 0 0 = 0) (hwr : F 11 0 2 = 0) (h17 : Fm 14 0 17 = 0) (hw : Fm 14 0 6 = w) (h6 : 0 ≤ w ∧ w < 3) (hn : F 11 0 18 = n) (hn' : Fm 14 0 45 = n) (n64 : n ≤ 64) (hc : ∀ k, 0 ≤ k → k < n → CRk B Bm k) (hpt : 0 ≤ pt ∧ pt < 1500) (hp : 0 ≤ p ∧ p < 3001) (e8 : B 3 0 8 pt = Bm 14 0 9 p) (e9 : B 3 0 9 pt = Bm 14 0 10 p) (e10 : B 3 0 10 pt = Bm 14 0 8 p) (v0 : 0 ≤ Bm 14 0 9 p ∧ Bm 14 0 9 p ≤ 62) (a0 : -2 ≤ Bm 14 0 10 p ∧ Bm 14 0 10 p ≤ 2) : zP (f_Walker_addPitch K 0 e pt F B) (f_M_pitchOf Km x p Fm Bm) (fun _ F' B' _ Fm' Bm' => pOK e x w c F B Fm Bm F' B' Fm' Bm' ∨ pNO p F B Fm Bm F' B' Fm' Bm') := by
  have okp : okP (Bm 14 0 9 p) (tnv (Bm 14 0 9 p) + Bm 14 0 10 p) := ⟨v0, (by first | decide | omega)⟩
  have l1 : f_M_pitchOf Km x p Fm Bm = crM Km x p Fm Bm (crr B n (Bm 14 0 9 p) (tnv (Bm 14 0 9 p) + Bm 14 0 10 p)) := by
    unfold f_M_pitchOf
    rw [if_pos hp, L_tonP v0.1 v0.2, zb_s, hn', L32 (by rw [hw]; exact h6) hx n Km (by first | decide | omega) n64 hc okp]
  have c1 : f_Walker_addPitch K 0 e pt F B = crC K e pt F B (crr B n (Bm 14 0 9 p) (tnv (Bm 14 0 9 p) + Bm 14 0 10 p)) := by
    unfold f_Walker_addPitch
    rw [if_pos ⟨Int.le_refl _, h11⟩, h0, if_pos ⟨Int.le_refl _, h3⟩, if_pos hpt, e8, C_nat v0.1 v0.2, zb_s, h0, if_pos ⟨Int.le_refl _, h3⟩, hn, e9, C37 h11 n K.1 (by first | decide | omega) n64 hc okp]
  have no : f_Walker_addPitch_142 K 0 pt F B = some (0, zup3 F 11 0 2 (9 + 16 * Bm 14 0 8 p), B) := by
    unfold f_Walker_addPitch_142 f_Walker_addPitch_157
    rw [if_pos ⟨Int.le_refl _, h11⟩, h0, if_pos ⟨Int.le_refl _, h3⟩, if_pos hpt, C_wref h11 hwr, zb_s, e10]
  rw [l1, c1]
  cases hr : crr B n (Bm 14 0 9 p) (tnv (Bm 14 0 9 p) + Bm 14 0 10 p) with
  | none =>
    show zP (f_Walker_addPitch_142 K 0 pt F B) (f_M_pitchOf_146 Km p Fm Bm) _
    rw [no, f_M_pitchOf_146, L_failAt h17 hp, zb_s]
    exact zP_s (Or.inr ⟨rfl, rfl, rfl, rfl⟩)
  | some st =>
    obtain ⟨s, t⟩ := st
    obtain ⟨⟨s0, s1⟩, t0, t1⟩ := crr_ok okp hr
    obtain ⟨E1, E2, E3, E4, E5⟩ := hE
    show zP (f_Walker_addPitch_122 K 1 t s 0 e pt F B) (f_M_pitchOf_184 Km Km (6 * x) (6 * x + Bm 13 (Fm 14 0 6) 21 x) (6 * x) t s x p Fm Bm) _
    obtain ⟨a, ha, ⟨a1, a2⟩, a3, a4⟩ := C24 (K := K) (F := F) (B := B) (al := t - tnv s) (c0 := c) he (s := s) (by unfold r32; omega) (by first | decide | omega) (fun k u v => by have := (E4 k u v).2.2.1; unfold r32; omega) c.toNat K.1 (by first | decide | omega) (by first | decide | omega)
    rw [show ((c.toNat : Nat) : Int) = c by omega] at ha a2 a3
    have ci : f_Event_insert K e s (t - tnv s) F B = f_Event_insert_49 K a e s (t - tnv s) F B := by
      unfold f_Event_insert
      rw [if_pos he, E1, if_pos (by unfold r32; omega), if_pos (by first | decide | omega), ha]
    have rr : ∀ k, 0 ≤ k → k < 6 * x + c → 6 * x ≤ k → r32 (Bm 13 w 28 k) := fun k u v z => by
      have := E4 (k - 6 * x) (by first | decide | omega) (by first | decide | omega)
      rw [show 6 * x + (k - 6 * x) = k by omega] at this
      have h1 := this.1
      have h2 := this.2.2.1
      unfold r32
      omega
    rw [f_Walker_addPitch_122, if_pos (by decide), if_neg (by decide), C_nat s0 s1, zb_s, if_pos he, ci, hw, E2]
    by_cases z : a < c ∧ B 1 e 12 a = s
    · have h49 : f_Event_insert_49 K a e s (t - tnv s) F B = some (0, F, B) := by
        unfold f_Event_insert_49
        rw [if_pos he, if_pos (by unfold r32; omega), E1, if_pos (by unfold r32; omega), if_neg (by first | decide | omega), if_pos (by first | decide | omega), z.2, if_pos (by unfold r32; omega), if_pos (by unfold r32; omega), if_pos rfl]
      rw [h49, zb_s, if_pos (by decide), if_pos rfl, no, L184y hw h6 h17 (by unfold r32; omega) hp (by first | decide | omega) rr (a := 6 * x + a) (by rw [← (E4 a a1 z.1).1]; exact z.2) (by first | decide | omega) c.toNat Km (by first | decide | omega) (by first | decide | omega) (by first | decide | omega) (by first | decide | omega) (by first | decide | omega)]
      exact zP_s (Or.inr ⟨rfl, rfl, rfl, rfl⟩)
    · have lt : ∀ k, 0 ≤ k → k < a → B 1 e 12 k < s := fun k u v => by
        rcases a4 with q | q
        · omega
        · by_cases y : k = a - 1
          · rw [y]; exact q
          · have := E5 k (a - 1) u (by first | decide | omega) (by first | decide | omega)
            omega
      have gt : ∀ k, a ≤ k → k < c → s < B 1 e 12 k := fun k u v => by
        have h1 := a3 k u v
        by_cases y : k = a
        · subst y
          by_cases q : B 1 e 12 k = s
          · exact absurd ⟨v, q⟩ z
          · omega
        · have := E5 a k a1 (by first | decide | omega) v
          have := a3 a (by first | decide | omega) (by first | decide | omega)
          omega
      have h49 : f_Event_insert_49 K a e s (t - tnv s) F B = f_Event_insert_75 K K.1 c a e s (t - tnv s) F B := by
        unfold f_Event_insert_49 f_Event_insert_69
        rw [if_pos he, if_pos (by unfold r32; omega), E1, if_pos (by unfold r32; omega)]
        by_cases y : c ≤ a
        · rw [if_pos y, if_pos he]
        · have g := gt a (by first | decide | omega) (by first | decide | omega)
          have g2 := (E4 a (by first | decide | omega) (by first | decide | omega)).2.2.1
          rw [if_neg y, if_pos (by first | decide | omega), if_pos (by unfold r32; omega), if_pos (by unfold r32; omega), if_neg (by first | decide | omega), if_pos he]
      have eqR : ∀ k, 6 * x ≤ k → k < 6 * x + c → Bm 13 w 28 k = B 1 e 12 (k - 6 * x) := fun k u v => by
        rw [(E4 (k - 6 * x) (by first | decide | omega) (by first | decide | omega)).1, show 6 * x + (k - 6 * x) = k by omega]
      obtain ⟨B', g, g1, g2, g3⟩ := C75 (K := K) (F := F) (e := e) (s := s) (al := t - tnv s) (a := a) he a1 (c - a).toNat K.1 (l := c) (B := B) (by first | decide | omega) (by first | decide | omega) (by first | decide | omega)
      obtain ⟨Bm', m, m1, m2, m3, m4⟩ := L226 (K := Km) (F := Fm) (w := w) (t := t) (s := s) (x := x) (a := 6 * x + a) (f := 6 * x) hw h6 s0 s1 hx (by first | decide | omega) (by first | decide | omega) (c - a).toNat Km (l := 6 * x + c) (B := Bm) (by first | decide | omega) (by first | decide | omega) (by first | decide | omega) (fun k u v => rr k (by first | decide | omega) v u) (fun k u v => by rw [eqR k (by first | decide | omega) v]; exact gt _ (by first | decide | omega) (by first | decide | omega)) (by
        by_cases y : a = 0
        · exact Or.inl (by first | decide | omega)
        · right
          rw [eqR _ (by first | decide | omega) (by first | decide | omega)]
          have := lt (6 * x + a - 1 - 6 * x) (by first | decide | omega) (by first | decide | omega)
          omega)
      rw [h49, g, zb_s, if_pos (by decide), if_neg (by decide), f_Walker_addPitch_157, L184n hw h6 h17 (by unfold r32; omega) (by first | decide | omega) (fun k u v y => ⟨rr k u v y, by
        rw [eqR k y v]
        by_cases q : k - 6 * x < a
        · have := lt _ (by first | decide | omega) q
          omega
        · have := gt (k - 6 * x) (by first | decide | omega) (by first | decide | omega)
          omega⟩) c.toNat Km (by first | decide | omega) (by first | decide | omega) (by first | decide | omega) (by first | decide | omega) (by first | decide | omega), m]
      refine zP_s (Or.inl ⟨by rw [E1], rfl, ⟨?_, ?_, (by first | decide | omega), ?_, ?_⟩, g3, ?_⟩)
      · rw [E1, zup3_v, if_pos (by first | decide | omega)]
      · rw [m3, E2]
      · intro k u v
        rw [g1, g2, m1, m2]
        by_cases y : k = a
        · rw [shf_a y, shf_a y, shf_a (by first | decide | omega), shf_a (by first | decide | omega)]
          exact ⟨rfl, rfl, ⟨s0, s1⟩, t0, t1⟩
        · by_cases q : a < k ∧ k ≤ c
          · rw [shf_m q.1 q.2, shf_m q.1 q.2, shf_m (by first | decide | omega) (by first | decide | omega), shf_m (by first | decide | omega) (by first | decide | omega)]
            have := E4 (k - 1) (by first | decide | omega) (by first | decide | omega)
            rw [show 6 * x + (k - 1) = 6 * x + k - 1 by omega] at this
            exact this
          · rw [shf_o (by first | decide | omega), shf_o (by first | decide | omega), shf_o (by first | decide | omega), shf_o (by first | decide | omega)]
            exact E4 k u (by first | decide | omega)
      · intro j k u v y
        rw [g1, g1]
        unfold shf
        by_cases q1 : j = a
        · rw [if_pos q1, if_neg (by first | decide | omega), if_pos (by first | decide | omega)]
          exact gt (k - 1) (by first | decide | omega) (by first | decide | omega)
        rw [if_neg q1]
        by_cases q2 : a < j ∧ j ≤ c
        · rw [if_pos q2, if_neg (by first | decide | omega), if_pos (by first | decide | omega)]
          exact E5 (j - 1) (k - 1) (by first | decide | omega) (by first | decide | omega) (by first | decide | omega)
        rw [if_neg q2]
        have := lt j u (by first | decide | omega)
        by_cases q3 : k = a
        · rw [if_pos q3]; exact this
        rw [if_neg q3]
        by_cases q4 : a < k ∧ k ≤ c
        · rw [if_pos q4]
          have := gt (k - 1) (by first | decide | omega) (by first | decide | omega)
          omega
        · rw [if_neg q4]
          exact E5 j k u v (by first | decide | omega)
      · intro c' i k y h
        by_cases q : c' = 13 ∧ i = w ∧ (k = 28 ∨ k = 29)
        · obtain ⟨rfl, rfl, q⟩ := q
          have hy : ¬ (6 * x ≤ y ∧ y < 6 * x + 6) := fun z => h ⟨rfl, rfl, Or.inl ⟨q, z⟩⟩
          rcases q with rfl | rfl
          · rw [m1]
            unfold shf
            rw [if_neg (by first | decide | omega), if_neg (by first | decide | omega)]
          · rw [m2]
            unfold shf
            rw [if_neg (by first | decide | omega), if_neg (by first | decide | omega)]
        · exact m4 c' i k y (fun z => by
            obtain ⟨z1, z2, z3⟩ := z
            rcases z3 with z3 | z3 | z3
            · exact q ⟨z1, z2, Or.inl z3⟩
            · exact q ⟨z1, z2, Or.inr z3⟩
            · exact h ⟨z1, z2, Or.inr z3⟩)
end
end
section
section
/-! ===== the walker: an event's pitches one after another ===== -/
def PLH (x s0 cnt p0 : Int) (nn : Nat) (F : zF) (B Bm : zB) : Prop := F 11 0 0 = 0 ∧ F 11 0 2 = 0 ∧ F 11 0 18 = nn ∧ B 3 0 6 x = cnt ∧ B 3 0 3 x = p0 ∧ (∀ k, 0 ≤ k → k < nn → CRk B Bm k) ∧ (∀ t, 0 ≤ t → t < cnt → B 3 0 8 (p0 + t) = Bm 14 0 9 (s0 + t) ∧ B 3 0 9 (p0 + t) = Bm 14 0 10 (s0 + t) ∧ B 3 0 10 (p0 + t) = Bm 14 0 8 (s0 + t) ∧ (0 ≤ Bm 14 0 9 (s0 + t) ∧ Bm 14 0 9 (s0 + t) ≤ 62) ∧ (-2 ≤ Bm 14 0 10 (s0 + t) ∧ Bm 14 0 10 (s0 + t) ≤ 2))
/-- what the pitches of event e (x) may change -/
def lFr (e x w : Int) (F : zF) (B Bm : zB) (F' : zF) (B' Bm' : zB) : Prop := (∀ c y k, ¬ (c = 1 ∧ y = e ∧ k = 10) → ¬ (c = 11 ∧ y = 0 ∧ k = 2) → F' c y k = F c y k) ∧ (∀ c i k y, ¬ (c = 1 ∧ i = e ∧ (k = 12 ∨ k = 13)) → B' c i k y = B c i k y) ∧ (∀ c i k y, ¬ (c = 13 ∧ i = w ∧ (((k = 28 ∨ k = 29) ∧ 6 * x ≤ y ∧ y < 6 * x + 6) ∨ (k = 21 ∧ y = x))) → Bm' c i k y = Bm c i k y)
theorem lFr_r {e x w : Int} {F : zF} {B Bm : zB} : lFr e x w F B Bm F B Bm := ⟨fun _ _ _ _ _ => rfl, fun _ _ _ _ _ => rfl, fun _ _ _ _ _ => rfl⟩
theorem lFr_t {e x w : Int} {F F' F'' : zF} {B Bm B' Bm' B'' Bm'' : zB} (h : lFr e x w F B Bm F' B' Bm') (h' : lFr e x w F' B' Bm' F'' B'' Bm'') : lFr e x w F B Bm F'' B'' Bm'' := ⟨fun c y k a b => by rw [h'.1 c y k a b, h.1 c y k a b], fun c i k y a => by rw [h'.2.1 c i k y a, h.2.1 c i k y a], fun c i k y a => by rw [h'.2.2 c i k y a, h.2.2 c i k y a]⟩
theorem PLH_f {x s0 cnt p0 e xx w : Int} {nn : Nat} {F F' : zF} {B Bm B' Bm' : zB} (h : PLH x s0 cnt p0 nn F B Bm) (f : lFr e xx w F B Bm F' B' Bm') (h2 : F' 11 0 2 = 0) : PLH x s0 cnt p0 nn F' B' Bm' := by
  obtain ⟨a1, a2, a3, a4, a5, a6, a7⟩ := h
  have b1 : ∀ (c : Nat) i k y, ¬ c = 1 → B' c i k y = B c i k y := fun c i k y n => f.2.1 c i k y (fun z => n z.1)
  have m1 : ∀ (c : Nat) i k y, ¬ c = 13 → Bm' c i k y = Bm c i k y := fun c i k y n => f.2.2 c i k y (fun z => n z.1)
  refine ⟨by rw [f.1 11 0 0 (by first | decide | omega) (by first | decide | omega)]; exact a1, h2, by rw [f.1 11 0 18 (by first | decide | omega) (by first | decide | omega)]; exact a3, by rw [b1 _ _ _ _ (by decide)]; exact a4, by rw [b1 _ _ _ _ (by decide)]; exact a5, fun k u v => ?_, fun t u v => ?_⟩
  · have := a6 k u v
    unfold CRk at this ⊢
    rw [b1 11 0 15 k (by decide), b1 11 0 16 k (by decide), b1 11 0 17 k (by decide), m1 14 0 42 k (by decide), m1 14 0 43 k (by decide), m1 14 0 44 k (by decide)]
    exact this
  · rw [b1 3 0 8 _ (by decide), b1 3 0 9 _ (by decide), b1 3 0 10 _ (by decide), m1 14 0 9 _ (by decide), m1 14 0 10 _ (by decide), m1 14 0 8 _ (by decide)]
    exact a7 t u v
theorem P_ploop {K : zK} {Km : Nat} {e xx w x s0 cnt p0 len dn nm l4 l3 i N : Int} {nn : Nat} {Fm : zF} {Q : Int → zF → zB → Int → zF → zB → Prop} {F0 : zF} {B0 Bm0 : zB} (hK : 100 < K.1) (hKm : 100 < Km) (h11 : 0 < K.2 11) (h3 : 0 < K.2 3) (he : 0 ≤ e ∧ e < K.2 1) (hxx : 0 ≤ xx ∧ xx < 4000) (hx : 0 ≤ x ∧ x < 3000) (h17 : Fm 14 0 17 = 0) (hw : Fm 14 0 6 = w) (h6 : 0 ≤ w ∧ w < 3) (hn' : Fm 14 0 45 = nn) (n64 : nn ≤ 64) (hc6 : cnt ≤ 6) (hp0 : 0 ≤ p0 ∧ p0 + cnt ≤ 1500) (hs0 : 0 ≤ s0 ∧ s0 + cnt ≤ N) (hN : N ≤ 3000) (ok : ∀ F' B' Bm', lFr e xx w F0 B0 Bm0 F' B' Bm' → F' 11 0 2 = 0 → EPR e xx w cnt F' B' Bm' → zP (f_Walker_makeEvent_273 K len 0 F' B') (f_M_event_0_277 Km xx dn nm l4 l3 i Fm Bm') Q) (no : ∀ F' B' Bm' p, lFr e xx w F0 B0 Bm0 F' B' Bm' → 0 ≤ p ∧ p ≤ N → F' 11 0 2 = 9 + 16 * Bm' 14 0 8 p → zP (f_Walker_makeEvent_273 K len 0 F' B') (f_M_event_0_277 Km xx dn nm l4 l3 i (flM Fm Bm' 9 p) Bm') Q) (h8 : ∀ t, 0 ≤ t → t ≤ N → 0 ≤ Bm0 14 0 8 t ∧ Bm0 14 0 8 t ≤ 3000) : ∀ (j n n' : Nat) {k : Int} {F : zF} {B Bm : zB}, (cnt - k).toNat = j → 0 ≤ k → k ≤ cnt → j < n → j < n' → EPR e xx w k F B Bm → PLH x s0 cnt p0 nn F B Bm → lFr e xx w F0 B0 Bm0 F B Bm → zP (f_Walker_makeEvent_228 K n k e len 0 x F B) (f_M_event_0_249 Km n' (s0 + k) (s0 + cnt) xx dn nm l4 l3 i Fm Bm) Q := by
  intro j
  induction j with
  | zero =>
    intro n n' k F B Bm hj k0 k1 hn hn2 hE hP hf
    obtain ⟨n, rfl⟩ : ∃ m, n = m + 1 := ⟨n - 1, (by first | decide | omega)⟩
    obtain ⟨n', rfl⟩ : ∃ m, n' = m + 1 := ⟨n' - 1, (by first | decide | omega)⟩
    obtain ⟨a1, a2, a3, a4, a5, a6, a7⟩ := hP
    have hk : k = cnt := by omega
    subst hk
    unfold f_Walker_makeEvent_228 f_M_event_0_249
    rw [if_pos ⟨Int.le_refl _, h11⟩, a1, if_pos ⟨Int.le_refl _, h3⟩, if_pos hx, a4, if_pos (by unfold r32; omega), if_pos (by unfold r32; omega), if_pos (Int.le_refl _), if_pos (by unfold r32; omega), if_pos (by unfold r32; omega), if_pos (Int.le_refl _)]
    exact ok F B Bm hf a2 hE
  | succ j ih =>
    intro n n' k F B Bm hj k0 k1 hn hn2 hE hP hf
    obtain ⟨n, rfl⟩ : ∃ m, n = m + 1 := ⟨n - 1, (by first | decide | omega)⟩
    obtain ⟨n', rfl⟩ : ∃ m, n' = m + 1 := ⟨n' - 1, (by first | decide | omega)⟩
    have hP' := hP
    obtain ⟨a1, a2, a3, a4, a5, a6, a7⟩ := hP
    obtain ⟨t1, t2, t3, t4, t5⟩ := a7 k k0 (by first | decide | omega)
    rw [f_Walker_makeEvent_228, f_M_event_0_249]
    rw [if_pos ⟨Int.le_refl _, h11⟩, a1, if_pos ⟨Int.le_refl _, h3⟩, if_pos hx, a4, a5, if_pos (by unfold r32; omega), if_pos (by unfold r32; omega), if_neg (by first | decide | omega), a2, if_pos (by decide), if_pos rfl, if_pos he, if_pos (by unfold r32; omega), if_pos (by unfold r32; omega), if_neg (by first | decide | omega), L_good h17, zb_s, if_pos (by decide), if_neg (by decide)]
    refine zP_c (P_pitch hK hKm h11 h3 hE (by first | decide | omega) he hxx a1 a2 h17 hw h6 a3 hn' n64 a6 (by first | decide | omega) (by first | decide | omega) t1 t2 t3 t4 t5) ?_
    intro r F1 B1 r' Fm1 Bm1 h
    rcases h with ⟨g1, g2, g3, g4, g5⟩ | ⟨g1, g2, g3, g4⟩
    · subst g2
      have f1 : lFr e xx w F B Bm F1 B1 Bm1 := ⟨fun c y k' u v => by rw [g1, zup3_v, if_neg u], g4, g5⟩
      rw [show s0 + k + 1 = s0 + (k + 1) by omega]
      exact ih n n' (by first | decide | omega) (by first | decide | omega) (by first | decide | omega) (by first | decide | omega) (by first | decide | omega) g3 (PLH_f hP' f1 (by rw [g1, zup3_v, if_neg (by first | decide | omega)]; exact a2)) (lFr_t hf f1)
    · obtain ⟨n, rfl⟩ : ∃ m, n = m + 1 := ⟨n - 1, (by first | decide | omega)⟩
      obtain ⟨n', rfl⟩ : ∃ m, n' = m + 1 := ⟨n' - 1, (by first | decide | omega)⟩
      subst g2 g3 g4
      have f1 : lFr e xx w F B1 Bm1 F1 B1 Bm1 := ⟨fun c y k' u v => by rw [g1, zup3_v, if_neg v], fun _ _ _ _ _ => rfl, fun _ _ _ _ _ => rfl⟩
      have f2 := lFr_t hf f1
      have e2 : F1 11 0 2 = 9 + 16 * Bm1 14 0 8 (s0 + k) := by rw [g1, zup3_v, if_pos (by decide)]
      have e0 : F1 11 0 0 = 0 := by rw [g1, zup3_v, if_neg (by decide)]; exact a1
      have b8 := h8 (s0 + k) (by first | decide | omega) (by first | decide | omega)
      rw [← hf.2.2 14 0 8 (s0 + k) (by first | decide | omega)] at b8
      have N := no F1 B1 Bm1 (s0 + k) f2 (by first | decide | omega) e2
      have c1 : f_Walker_makeEvent_228 K (n + 1) (k + 1) e len 0 x F1 B1 = f_Walker_makeEvent_273 K len 0 F1 B1 := by
        rw [f_Walker_makeEvent_228, if_pos ⟨Int.le_refl _, h11⟩, e0, if_pos ⟨Int.le_refl _, h3⟩, if_pos hx, a4, if_pos (by unfold r32; omega), if_pos (by unfold r32; omega)]
        by_cases z : cnt ≤ k + 1
        · rw [if_pos z]
        · rw [if_neg z, if_pos (by unfold r32; omega), if_neg (by first | decide | omega)]
      have m1 : f_M_event_0_249 Km (n' + 1) (s0 + k + 1) (s0 + cnt) xx dn nm l4 l3 i (flM Fm Bm1 9 (s0 + k)) Bm1 = f_M_event_0_277 Km xx dn nm l4 l3 i (flM Fm Bm1 9 (s0 + k)) Bm1 := by
        rw [f_M_event_0_249, if_pos (by unfold r32; omega), if_pos (by unfold r32; omega)]
        by_cases z : s0 + cnt ≤ s0 + k + 1
        · rw [if_pos z]
        · rw [if_neg z, L_goodB (flM_b (by decide) (by decide)), zb_s, if_pos (by decide), if_pos rfl]
      rw [c1, m1]
      exact N
end
end
section
section
/-! ===== the walkers of both sides: what is alike, what may change ===== -/
def ownE (B : zB) (q y : Int) : Prop := ∃ i, 0 ≤ i ∧ i < 200 ∧ B 4 q 5 i = y
def inJ (q : Int) (B : zB) : Prop := ∀ t t', 0 ≤ t → t < 200 → 0 ≤ t' → t' < 200 → B 4 q 5 t = B 4 q 5 t' → t = t'
/-- one event -/
def EVW (w e x : Int) (F : zF) (B Bm : zB) : Prop := (1 ≤ F 1 e 2 ∧ F 1 e 2 ≤ 1024) ∧ (F 1 e 3 = Bm 13 w 24 x ∧ 1 ≤ F 1 e 3 ∧ F 1 e 3 ≤ 81) ∧ (F 1 e 4 = Bm 13 w 23 x ∧ 1 ≤ F 1 e 4 ∧ F 1 e 4 ≤ 81) ∧ (∃ z, 6350400 = F 1 e 3 * z ∧ F 1 e 1 = z * F 1 e 2 * F 1 e 4) ∧ (Bm 13 w 16 x = nu (F 1 e 1) ∧ Bm 13 w 17 x = de (F 1 e 1) ∧ 1 ≤ F 1 e 1 ∧ F 1 e 1 ≤ 600000000000) ∧ (F 1 e 5 = Bm 13 w 25 x ∧ 0 ≤ F 1 e 5 ∧ F 1 e 5 ≤ 5000) ∧ (0 ≤ Bm 13 w 22 x ∧ Bm 13 w 22 x ≤ 2 ∧ (F 1 e 5 = 0 ↔ Bm 13 w 22 x = 0) ∧ (F 1 e 5 = 0 → F 1 e 3 = 1 ∧ F 1 e 4 = 1)) ∧ (0 < F 1 e 5 → F 1 e 6 = Bm 14 0 8 (Bm 13 w 26 x) ∧ 0 ≤ Bm 13 w 26 x ∧ Bm 13 w 26 x ≤ 3000 ∧ 0 ≤ F 1 e 6 ∧ F 1 e 6 ≤ 3000) ∧ (F 1 e 7 = Bm 13 w 18 x ∧ 0 ≤ F 1 e 7 ∧ F 1 e 7 < 128) ∧ (F 1 e 8 = Bm 13 w 19 x ∧ 0 ≤ F 1 e 8 ∧ F 1 e 8 ≤ 7) ∧ (F 1 e 9 = Bm 14 0 8 (Bm 13 w 20 x) ∧ 0 ≤ Bm 13 w 20 x ∧ Bm 13 w 20 x ≤ 3000 ∧ 0 ≤ F 1 e 9 ∧ F 1 e 9 ≤ 3000) ∧ EPR e x w (F 1 e 10) F B Bm
/-- the brackets around -/
def TPL (b tf ts : Int) (Bm : zB) : Prop := (∀ k, 0 ≤ k → k < b → (2 ≤ Bm 14 0 46 k ∧ Bm 14 0 46 k ≤ 9) ∧ (1 ≤ Bm 14 0 47 k ∧ Bm 14 0 47 k ≤ 9)) ∧ (1 ≤ tf ∧ tf ≤ 81) ∧ (1 ≤ ts ∧ ts ≤ 81) ∧ (b = 0 → tf = 1 ∧ ts = 1) ∧ (b = 1 → tf = Bm 14 0 46 0 ∧ ts = Bm 14 0 47 0) ∧ (b = 2 → tf = Bm 14 0 46 0 * Bm 14 0 46 1 ∧ ts = Bm 14 0 47 0 * Bm 14 0 47 1)
def WS (q v w bar : Int) (D : Nat) (F : zF) (B : zB) (Fm : zF) (Bm : zB) : Prop :=
  (F 11 0 0 = 0 ∧ F 11 0 1 = q ∧ F 11 0 2 = 0 ∧ Fm 14 0 17 = 0) ∧
  (Fm 14 0 35 = v ∧ Fm 14 0 6 = w ∧ F 11 0 13 = bar ∧ F 11 0 12 = 100 * bar) ∧
  (F 11 0 3 = Fm 14 0 37 ∧ 0 ≤ F 11 0 3 ∧ F 11 0 3 ≤ 5000) ∧
  (F 11 0 4 = Fm 14 0 40 ∧ 0 ≤ F 11 0 4 ∧ F 11 0 4 ≤ 7) ∧
  (F 11 0 5 = Fm 14 0 41 ∧ 0 ≤ F 11 0 5 ∧ F 11 0 5 ≤ D) ∧
  (F 11 0 6 = Fm 14 0 48 ∧ 0 ≤ F 11 0 6 ∧ F 11 0 6 ≤ D) ∧
  (F 11 0 7 = Fm 14 0 50 ∧ 0 ≤ F 11 0 7 ∧ F 11 0 7 ≤ F 11 0 3) ∧
  (0 < F 11 0 6 → 1 ≤ F 11 0 7 ∧ F 11 0 8 = Bm 14 0 8 (Fm 14 0 49) ∧ 0 ≤ Fm 14 0 49 ∧ Fm 14 0 49 ≤ 3000 ∧ 0 ≤ F 11 0 8 ∧ F 11 0 8 ≤ 3000) ∧
  TPL (F 11 0 6) (F 11 0 9) (F 11 0 10) Bm ∧
  (Fm 14 0 38 = nu (F 11 0 11) ∧ Fm 14 0 39 = de (F 11 0 11) ∧ 0 ≤ F 11 0 11 ∧ F 11 0 11 ≤ 100 * bar) ∧
  (∀ k, 0 ≤ k → k < 4 → B 11 0 14 k = Bm 14 0 51 (prN k) ∧ -(3 * (D : Int)) ≤ B 11 0 14 k ∧ B 11 0 14 k ≤ 3 * (D : Int)) ∧
  (F 11 0 18 = Fm 14 0 45 ∧ 0 ≤ F 11 0 18 ∧ F 11 0 18 ≤ D ∧ ∀ k, 0 ≤ k → k < F 11 0 18 → CRk B Bm k) ∧
  (F 4 q 6 = Fm 14 0 36 ∧ 0 ≤ F 4 q 6 ∧ F 4 q 6 ≤ 200 ∧ ∀ i, 0 ≤ i → i < F 4 q 6 → EVW w (B 4 q 5 i) (1000 * v + i) F B Bm)
/-- both have told the same fault; what is left to do comes to nothing -/
def WE (D : Nat) (q v w : Int) (F : zF) (Fm : zF) : Prop := F 11 0 0 = 0 ∧ F 11 0 1 = q ∧ F 11 0 2 = Fm 14 0 17 + 16 * Fm 14 0 18 ∧ bad Fm ∧ (0 ≤ Fm 14 0 18 ∧ Fm 14 0 18 ≤ 3000) ∧ Fm 14 0 35 = v ∧ Fm 14 0 6 = w ∧ (0 ≤ F 4 q 6 ∧ F 4 q 6 ≤ 200) ∧ (0 ≤ Fm 14 0 36 ∧ Fm 14 0 36 ≤ 200) ∧ (0 ≤ F 11 0 3 ∧ F 11 0 3 + D ≤ 5100)
def sumZ (g : Int → Int) : Nat → Int
  | 0 => 0
  | n + 1 => sumZ g n + g n
/-- how far the walk has come, less all lengths -/
def SD (q : Int) (F : zF) (B : zB) : Int := F 11 0 11 - sumZ (fun j => F 1 (B 4 q 5 j) 1) (F 4 q 6).toNat
theorem sumZ_c {g h : Int → Int} : ∀ {n : Nat}, (∀ j : Int, 0 ≤ j → j < n → g j = h j) → sumZ g n = sumZ h n := by
  intro n
  induction n with
  | zero => intro _; rfl
  | succ n ih => intro e; rw [sumZ, sumZ, ih (fun j a b => e j a (by first | decide | omega)), e n (by first | decide | omega) (by first | decide | omega)]
theorem sumZ_f {g : Int → Int} : ∀ {n : Nat}, sumZ g (n + 1) = g 0 + sumZ (fun k => g (k + 1)) n := by
  intro n
  induction n with
  | zero => rw [sumZ, sumZ, sumZ]; show 0 + g 0 = g 0 + 0; omega
  | succ n ih => rw [sumZ, ih, sumZ, Int.add_assoc]; rfl
theorem sumZ_a {g : Int → Int} {a : Nat} : ∀ {n : Nat}, sumZ g (a + n) = sumZ g a + sumZ (fun k => g (a + k)) n := by
  intro n
  induction n with
  | zero => rw [sumZ, Int.add_zero]; rfl
  | succ n ih => rw [← Nat.add_assoc, sumZ, ih, sumZ, Int.add_assoc, show ((a + n : Nat) : Int) = (a : Int) + n by omega]
theorem sumZ_r {f : Int → Int} : ∀ {n : Nat}, sumZ (fun k => f (n - 1 - k)) n = sumZ f n := by
  intro n
  induction n with
  | zero => rfl
  | succ n ih =>
    rw [sumZ_f, sumZ, show f (((n + 1 : Nat) : Int) - 1 - 0) = f n by rw [show ((n + 1 : Nat) : Int) - 1 - 0 = n by omega], ← ih, Int.add_comm]
    congr 1
    exact sumZ_c (fun j _ _ => by rw [show ((n + 1 : Nat) : Int) - 1 - (j + 1) = (n : Int) - 1 - j by omega])
theorem SD_c {q : Int} {F F' : zF} {B B' : zB} (h1 : F' 11 0 11 = F 11 0 11) (h2 : F' 4 q 6 = F 4 q 6) (h : 0 ≤ F 4 q 6 ∧ F 4 q 6 ≤ 200) (h3 : ∀ j, 0 ≤ j → j < 200 → F' 1 (B' 4 q 5 j) 1 = F 1 (B 4 q 5 j) 1) : SD q F' B' = SD q F B := by
  unfold SD
  rw [h1, h2, sumZ_c (fun j a b => h3 j a (by first | decide | omega))]
def inV (v w : Int) (c : Nat) (i : Int) (k : Nat) (x : Int) : Prop := c = 13 ∧ i = w ∧ ((16 ≤ k ∧ k ≤ 26 ∧ 1000 * v ≤ x ∧ x < 1000 * v + 1000) ∨ (28 ≤ k ∧ k ≤ 29 ∧ 6000 * v ≤ x ∧ x < 6000 * v + 6000))
def WFR (q v w : Int) (F : zF) (B : zB) (Fm : zF) (Bm : zB) (F' : zF) (B' : zB) (Fm' : zF) (Bm' : zB) : Prop :=
  (∀ c y k, ¬ (c = 11 ∧ y = 0) → ¬ (c = 4 ∧ y = q ∧ k = 6) → ¬ (c = 1 ∧ ownE B q y) → F' c y k = F c y k) ∧
  (∀ c y k x, ¬ (c = 11 ∧ y = 0) → ¬ (c = 4 ∧ y = q ∧ k = 5) → ¬ (c = 1 ∧ ownE B q y) → B' c y k x = B c y k x) ∧
  (∀ y, ownE B' q y ↔ ownE B q y) ∧
  (∀ c i k, ¬ (c = 14 ∧ i = 0 ∧ (k ≤ 1 ∨ k = 17 ∨ k = 18 ∨ (36 ≤ k ∧ k ≤ 50))) → Fm' c i k = Fm c i k) ∧
  (∀ c i k x, ¬ (c = 14 ∧ i = 0 ∧ 42 ≤ k ∧ k ≤ 51) → ¬ inV v w c i k x → Bm' c i k x = Bm c i k x) ∧
  (inJ q B → inJ q B' ∧ (0 ≤ F 4 q 6 ∧ F 4 q 6 ≤ 200 → (0 ≤ F' 4 q 6 ∧ F' 4 q 6 ≤ 200) ∧ SD q F' B' = SD q F B))
theorem WFR_r {q v w : Int} {F : zF} {B : zB} {Fm : zF} {Bm : zB} : WFR q v w F B Fm Bm F B Fm Bm := ⟨fun _ _ _ _ _ _ => rfl, fun _ _ _ _ _ _ _ => rfl, fun _ => Iff.rfl, fun _ _ _ _ => rfl, fun _ _ _ _ _ _ => rfl, fun h => ⟨h, fun c => ⟨c, rfl⟩⟩⟩
theorem WFR_t {q v w : Int} {F F1 F2 : zF} {B B1 B2 : zB} {Fm Fm1 Fm2 : zF} {Bm Bm1 Bm2 : zB} (h : WFR q v w F B Fm Bm F1 B1 Fm1 Bm1) (h' : WFR q v w F1 B1 Fm1 Bm1 F2 B2 Fm2 Bm2) : WFR q v w F B Fm Bm F2 B2 Fm2 Bm2 :=
  ⟨fun c y k a b d => by rw [h'.1 c y k a b (fun z => d ⟨z.1, (h.2.2.1 y).mp z.2⟩), h.1 c y k a b d], fun c y k x a b d => by rw [h'.2.1 c y k x a b (fun z => d ⟨z.1, (h.2.2.1 y).mp z.2⟩), h.2.1 c y k x a b d], fun y => (h'.2.2.1 y).trans (h.2.2.1 y), fun c i k a => by rw [h'.2.2.2.1 c i k a, h.2.2.2.1 c i k a], fun c i k x a b => by rw [h'.2.2.2.2.1 c i k x a b, h.2.2.2.2.1 c i k x a b], fun z => ⟨(h'.2.2.2.2.2 (h.2.2.2.2.2 z).1).1, fun c => by
    obtain ⟨c1, e1⟩ := (h.2.2.2.2.2 z).2 c
    obtain ⟨c2, e2⟩ := (h'.2.2.2.2.2 (h.2.2.2.2.2 z).1).2 c1
    exact ⟨c2, by rw [e2, e1]⟩⟩⟩
/-- what a walk gives back as it was -/
def WKP (q : Int) (F : zF) (B : zB) (Fm : zF) (Bm : zB) (F' : zF) (B' : zB) (Fm' : zF) (Bm' : zB) : Prop := (F' 11 0 5 = F 11 0 5 ∧ F' 11 0 6 = F 11 0 6 ∧ F' 11 0 9 = F 11 0 9 ∧ F' 11 0 10 = F 11 0 10 ∧ F' 11 0 18 = F 11 0 18) ∧ (∀ k, 0 ≤ k → k < 4 → B' 11 0 14 k = B 11 0 14 k) ∧ (∀ k, 0 ≤ k → k < F 11 0 18 → B' 11 0 15 k = B 11 0 15 k ∧ B' 11 0 16 k = B 11 0 16 k ∧ B' 11 0 17 k = B 11 0 17 k ∧ Bm' 14 0 42 k = Bm 14 0 42 k ∧ Bm' 14 0 43 k = Bm 14 0 43 k ∧ Bm' 14 0 44 k = Bm 14 0 44 k) ∧ (∀ k, 0 ≤ k → k < F 11 0 6 → Bm' 14 0 46 k = Bm 14 0 46 k ∧ Bm' 14 0 47 k = Bm 14 0 47 k) ∧ (0 < F 11 0 6 → F' 11 0 7 = F 11 0 7 ∧ F' 11 0 8 = F 11 0 8 ∧ Fm' 14 0 49 = Fm 14 0 49) ∧ F 4 q 6 ≤ F' 4 q 6
theorem WKP_r {q : Int} {F : zF} {B : zB} {Fm : zF} {Bm : zB} : WKP q F B Fm Bm F B Fm Bm := ⟨⟨rfl, rfl, rfl, rfl, rfl⟩, fun _ _ _ => rfl, fun _ _ _ => ⟨rfl, rfl, rfl, rfl, rfl, rfl⟩, fun _ _ _ => ⟨rfl, rfl⟩, fun _ => ⟨rfl, rfl, rfl⟩, Int.le_refl _⟩
theorem WKP_t {q : Int} {F F1 F2 : zF} {B B1 B2 : zB} {Fm Fm1 Fm2 : zF} {Bm Bm1 Bm2 : zB} (h : WKP q F B Fm Bm F1 B1 Fm1 Bm1) (h' : WKP q F1 B1 Fm1 Bm1 F2 B2 Fm2 Bm2) : WKP q F B Fm Bm F2 B2 Fm2 Bm2 := by
  obtain ⟨⟨a1, a2, a3, a4, a5⟩, a6, a7, a8, a9, a10⟩ := h
  obtain ⟨⟨b1, b2, b3, b4, b5⟩, b6, b7, b8, b9, b10⟩ := h'
  refine ⟨⟨by rw [b1, a1], by rw [b2, a2], by rw [b3, a3], by rw [b4, a4], by rw [b5, a5]⟩, fun k u v => by rw [b6 k u v, a6 k u v], fun k u v => ?_, fun k u v => ?_, fun u => ?_, Int.le_trans a10 b10⟩
  · obtain ⟨p1, p2, p3, p4, p5, p6⟩ := a7 k u v
    obtain ⟨q1, q2, q3, q4, q5, q6⟩ := b7 k u (by rw [a5]; exact v)
    exact ⟨by rw [q1, p1], by rw [q2, p2], by rw [q3, p3], by rw [q4, p4], by rw [q5, p5], by rw [q6, p6]⟩
  · obtain ⟨p1, p2⟩ := a8 k u v
    obtain ⟨q1, q2⟩ := b8 k u (by rw [a2]; exact v)
    exact ⟨by rw [q1, p1], by rw [q2, p2]⟩
  · obtain ⟨p1, p2, p3⟩ := a9 u
    obtain ⟨q1, q2, q3⟩ := b9 (by rw [a2]; exact u)
    exact ⟨by rw [q1, p1], by rw [q2, p2], by rw [q3, p3]⟩
def WO (q v w bar : Int) (D : Nat) (F : zF) (B : zB) (Fm : zF) (Bm : zB) (F' : zF) (B' : zB) (Fm' : zF) (Bm' : zB) : Prop := WFR q v w F B Fm Bm F' B' Fm' Bm' ∧ ((WS q v w bar D F' B' Fm' Bm' ∧ WKP q F B Fm Bm F' B' Fm' Bm') ∨ WE D q v w F' Fm')
theorem slV_b {a b c d : Int} : slV a b c d = -1 ∨ (1 ≤ slV a b c d ∧ slV a b c d ≤ 1024) := by
  unfold slV
  split
  · unfold cap
    have h : (1 : Int) ≤ 2 ^ a.toNat * (3 ^ b.toNat * (5 ^ c.toNat * 7 ^ d.toNat)) := ml_1 (pw_1 (by decide) _) (ml_1 (pw_1 (by decide) _) (ml_1 (pw_1 (by decide) _) (pw_1 (by decide) _)))
    split
    · exact Or.inr ⟨h, by assumption⟩
    · exact Or.inl rfl
  · exact Or.inl rfl
theorem d81 : ∀ a b : Fin 10, 1 ≤ a.val → 1 ≤ b.val → (6350400 : Int) = (a.val : Int) * (b.val : Int) * (6350400 / ((a.val : Int) * (b.val : Int))) := by decide +kernel
theorem d81i {a b : Int} (a0 : 1 ≤ a) (a1 : a ≤ 9) (b0 : 1 ≤ b) (b1 : b ≤ 9) : ∃ z, 6350400 = a * b * z ∧ 1 ≤ z ∧ z ≤ 6350400 := by
  have h := d81 ⟨a.toNat, (by first | decide | omega)⟩ ⟨b.toNat, (by first | decide | omega)⟩ (by show 1 ≤ a.toNat; omega) (by show 1 ≤ b.toNat; omega)
  rw [show (((⟨a.toNat, (by first | decide | omega)⟩ : Fin 10).val : Nat) : Int) = a by show ((a.toNat : Nat) : Int) = a; omega, show (((⟨b.toNat, (by first | decide | omega)⟩ : Fin 10).val : Nat) : Int) = b by show ((b.toNat : Nat) : Int) = b; omega] at h
  have ab : 1 ≤ a * b := ml_1 a0 b0
  generalize 6350400 / (a * b) = z at h
  have z1 : 1 ≤ z := by
    rcases Int.lt_or_le 0 z with y | y
    · omega
    · have := Int.mul_nonpos_of_nonneg_of_nonpos (show 0 ≤ a * b by omega) y
      omega
  have z2 : 1 * z ≤ a * b * z := Int.mul_le_mul_of_nonneg_right ab (by first | decide | omega)
  exact ⟨z, h, z1, (by first | decide | omega)⟩
theorem TPL_d {b tf ts : Int} {Bm : zB} (h : TPL b tf ts Bm) (b0 : 0 ≤ b) (b2 : b ≤ 2) : ∃ z, 6350400 = tf * z ∧ 1 ≤ z ∧ z ≤ 6350400 := by
  obtain ⟨a1, a2, a3, a4, a5, a6⟩ := h
  have hb : b = 0 ∨ b = 1 ∨ b = 2 := by omega
  rcases hb with rfl | rfl | rfl
  · exact ⟨6350400, by rw [(a4 rfl).1]; decide, by decide, by decide⟩
  · have h0 := (a1 0 (by decide) (by decide)).1
    obtain ⟨z, hz, z1, z2⟩ := d81i (a := Bm 14 0 46 0) (b := 1) (by first | decide | omega) (by first | decide | omega) (by decide) (by decide)
    exact ⟨z, by rw [(a5 rfl).1, hz, Int.mul_one], z1, z2⟩
  · have h0 := (a1 0 (by decide) (by decide)).1
    have h1 := (a1 1 (by decide) (by decide)).1
    obtain ⟨z, hz, z1, z2⟩ := d81i (a := Bm 14 0 46 0) (b := Bm 14 0 46 1) (by first | decide | omega) (by first | decide | omega) (by first | decide | omega) (by first | decide | omega)
    exact ⟨z, by rw [(a6 rfl).1, hz], z1, z2⟩
theorem L34w {K n : Nat} {F : zF} {B : zB} {b tf ts u i : Int} (hb : F 14 0 48 = b) (b0 : 0 ≤ b) (b2 : b ≤ 2) (h : TPL b tf ts B) (hn : 3 ≤ n) : ∃ m, f_M_event_0_34 K n 0 1 1 u i F B = f_M_event_0_34 K (m + 1) b tf ts u i F B := by
  obtain ⟨n, rfl⟩ : ∃ m, n = m + 3 := ⟨n - 3, (by first | decide | omega)⟩
  obtain ⟨a1, a2, a3, a4, a5, a6⟩ := h
  have st : ∀ (m : Nat) (l l4 l3 : Int), 0 ≤ l → l < b → f_M_event_0_34 K (m + 1) l l4 l3 u i F B = f_M_event_0_34 K m (l + 1) (l4 * B 14 0 46 l) (l3 * B 14 0 47 l) u i F B := fun m l l4 l3 p q => by
    rw [f_M_event_0_34, hb, if_pos (by unfold r32; omega), if_pos (by unfold r32; omega), if_neg (by first | decide | omega), if_pos (by first | decide | omega)]
  have hb' : b = 0 ∨ b = 1 ∨ b = 2 := by omega
  rcases hb' with rfl | rfl | rfl
  · exact ⟨n + 2, by rw [(a4 rfl).1, (a4 rfl).2]⟩
  · exact ⟨n + 1, by rw [st _ _ _ _ (by decide) (by decide), (a5 rfl).1, (a5 rfl).2, Int.one_mul, Int.one_mul]; rfl⟩
  · exact ⟨n, by rw [st _ _ _ _ (by decide) (by decide), Int.one_mul, Int.one_mul, st _ _ _ _ (by decide) (by decide), (a6 rfl).1, (a6 rfl).2]; rfl⟩
end
end
section
section
/-! ===== an event made: both sides up to its pitches ===== -/
theorem zcmp_m {a b : Int} : zcmp a b ≤ 0 ↔ a ≤ b := by
  unfold zcmp
  split
  · constructor <;> intro <;> omega
  · split
    · constructor <;> intro <;> omega
    · constructor <;> intro <;> omega
def evF (e len u tf ts br bp mk ld tok : Int) (F : zF) : zF := zup3 (zup3 (zup3 (zup3 (zup3 (zup3 (zup3 (zup3 (zup3 (zup3 F 1 e 1 len) 1 e 2 u) 1 e 3 tf) 1 e 4 ts) 1 e 5 br) 1 e 6 bp) 1 e 7 mk) 1 e 8 ld) 1 e 9 tok) 1 e 10 0
theorem evF_n {e len u tf ts br bp mk ld tok : Int} {F : zF} {c k : Nat} {y : Int} (h : ¬ (c = 1 ∧ y = e ∧ 1 ≤ k ∧ k ≤ 10)) : evF e len u tf ts br bp mk ld tok F c y k = F c y k := by
  unfold evF
  rw [zup3_v, if_neg (by first | decide | omega), zup3_v, if_neg (by first | decide | omega), zup3_v, if_neg (by first | decide | omega), zup3_v, if_neg (by first | decide | omega), zup3_v, if_neg (by first | decide | omega), zup3_v, if_neg (by first | decide | omega), zup3_v, if_neg (by first | decide | omega), zup3_v, if_neg (by first | decide | omega), zup3_v, if_neg (by first | decide | omega), zup3_v, if_neg (by first | decide | omega)]
theorem evF_v {e len u tf ts br bp mk ld tok : Int} {F : zF} : evF e len u tf ts br bp mk ld tok F 1 e 1 = len ∧ evF e len u tf ts br bp mk ld tok F 1 e 2 = u ∧ evF e len u tf ts br bp mk ld tok F 1 e 3 = tf ∧ evF e len u tf ts br bp mk ld tok F 1 e 4 = ts ∧ evF e len u tf ts br bp mk ld tok F 1 e 5 = br ∧ evF e len u tf ts br bp mk ld tok F 1 e 6 = bp ∧ evF e len u tf ts br bp mk ld tok F 1 e 7 = mk ∧ evF e len u tf ts br bp mk ld tok F 1 e 8 = ld ∧ evF e len u tf ts br bp mk ld tok F 1 e 9 = tok ∧ evF e len u tf ts br bp mk ld tok F 1 e 10 = 0 := by
  simp [evF, zup3_v]
theorem C35a {K : zK} {F : zF} {B : zB} {x pl : Int} (h11 : 0 < K.2 11) (hwr : F 11 0 2 = 0) : f_Walker_makeEvent_35 K pl 0 x (-1) F B = some (0, zup3 F 11 0 2 (12 + 16 * pl), B) := by
  unfold f_Walker_makeEvent_35 f_Walker_makeEvent_49
  rw [if_pos (by decide), if_pos rfl, if_pos ⟨Int.le_refl _, h11⟩, C_wref h11 hwr, zb_s]
theorem C35b {K : zK} {F : zF} {B : zB} {x pl u q m b tf ts z e come far : Int} (h11 : 0 < K.2 11) (h3 : 0 < K.2 3) (h4 : 0 ≤ q ∧ q < K.2 4) (hx : 0 ≤ x ∧ x < 3000) (h0 : F 11 0 0 = 0) (h1 : F 11 0 1 = q) (hwr : F 11 0 2 = 0) (hm : F 4 q 6 = m) (m0 : 0 ≤ m ∧ m ≤ 200) (hb : F 11 0 6 = b) (b0 : 0 ≤ b ∧ b ≤ 100) (htf : F 11 0 9 = tf) (tf0 : 1 ≤ tf ∧ tf ≤ 81) (hts : F 11 0 10 = ts) (ts0 : 1 ≤ ts ∧ ts ≤ 81) (hz : 6350400 = tf * z) (z0 : 1 ≤ z ∧ z ≤ 6350400) (u0 : 1 ≤ u ∧ u ≤ 1024) (hc : F 11 0 11 = come) (c0 : 0 ≤ come ∧ come ≤ 1000000000000) (hf : F 11 0 12 = far) (f0 : 0 ≤ far ∧ far ≤ 1000000000000) (he : m < 200 → B 4 q 5 m = e ∧ 0 ≤ e ∧ e < K.2 1) : f_Walker_makeEvent_35 K pl 0 x u F B = if 200 ≤ m ∨ far < come + z * u * ts then some (0, zup3 F 11 0 2 (8 + 16 * pl), B) else f_Walker_makeEvent_228 K K.1 0 e (z * u * ts) 0 x (evF e (z * u * ts) u tf ts (if b = 0 then 0 else F 11 0 7) (F 11 0 8) (B 3 0 7 x) (F 11 0 4) pl F) B := by
  have e1 : zldv (6350400 * u) tf = z * u := by
    rw [zldv_e (by first | decide | omega) (by first | decide | omega) (by first | decide | omega) (by first | decide | omega), hz, show tf * z * u = tf * (z * u) by ac_rfl, Int.mul_ediv_cancel_left _ (by first | decide | omega)]
  have zu : 1 ≤ z * u := ml_1 z0.1 u0.1
  have zu2 : z * u ≤ 6350400 * 1024 := Int.mul_le_mul z0.2 u0.2 (by first | decide | omega) (by decide)
  have zt : 1 ≤ z * u * ts := ml_1 zu ts0.1
  have zt2 : z * u * ts ≤ 6350400 * 1024 * 81 := Int.mul_le_mul zu2 ts0.2 (by first | decide | omega) (by decide)
  have n8 : f_Walker_makeEvent_105 K pl 0 F B = some (0, zup3 F 11 0 2 (8 + 16 * pl), B) := by
    unfold f_Walker_makeEvent_105
    rw [if_pos ⟨Int.le_refl _, h11⟩, C_wref h11 hwr, zb_s]
  unfold f_Walker_makeEvent_35
  rw [if_pos (by unfold r32; omega), if_neg (by first | decide | omega), if_pos ⟨Int.le_refl _, h11⟩, h1, htf, hts, hm, hb, hc, hf, e1, if_pos (by unfold r32; omega), if_pos tf0.1, if_pos (lI_n0 (by first | decide | omega) (by unfold r64; omega)), if_pos (by unfold r32; omega), if_pos h4, if_pos (by unfold r32; omega)]
  by_cases a : 200 ≤ m
  · rw [if_pos a, if_pos (Or.inl a), n8]
  obtain ⟨he1, he2⟩ := he (by first | decide | omega)
  rw [if_neg a, if_pos (by unfold r64; omega), if_pos (by unfold r64; omega)]
  by_cases c : zcmp (come + z * u * ts) far ≤ 0
  case neg =>
    rw [if_neg c, n8, if_pos (Or.inr (by have := mt zcmp_m.mpr c; omega))]
  have hR : ¬ (200 ≤ m ∨ far < come + z * u * ts) := by have := zcmp_m.mp c; omega
  rw [if_pos c, if_neg hR, if_pos (by first | decide | omega), he1, if_pos he2, if_pos (by unfold r32; omega)]
  have fin : ∀ br, f_Walker_makeEvent_178 K e (z * u * ts) pl 0 x e br (zup3 (zup3 (zup3 (zup3 F 1 e 1 (z * u * ts)) 1 e 2 u) 1 e 3 tf) 1 e 4 ts) B = f_Walker_makeEvent_228 K K.1 0 e (z * u * ts) 0 x (evF e (z * u * ts) u tf ts br (F 11 0 8) (B 3 0 7 x) (F 11 0 4) pl F) B := by
    intro br
    have g : ∀ k, (zup3 (zup3 (zup3 (zup3 F 1 e 1 (z * u * ts)) 1 e 2 u) 1 e 3 tf) 1 e 4 ts) 11 0 k = F 11 0 k := fun k => by
      rw [zup3_v, if_neg (by first | decide | omega), zup3_v, if_neg (by first | decide | omega), zup3_v, if_neg (by first | decide | omega), zup3_v, if_neg (by first | decide | omega)]
    unfold f_Walker_makeEvent_178 evF
    rw [if_pos he2, if_pos ⟨Int.le_refl _, h11⟩, if_pos he2, g, g, g, h0, if_pos ⟨Int.le_refl _, h3⟩, if_pos hx]
  by_cases d : b = 0
  · rw [if_pos d, if_pos d, fin]
  · rw [if_neg d, if_neg d, fin]
theorem fr_n {F : zF} {p : Int} {c k : Nat} {y : Int} (h : ¬ (c = 14 ∧ y = 0 ∧ k ≤ 1)) : fr F p c y k = F c y k := by
  unfold fr
  rw [zup3_v, if_neg (by first | decide | omega), zup3_v, if_neg (by first | decide | omega)]
theorem fr_0 {F : zF} {p : Int} : fr F p 14 0 0 = nu p := by
  unfold fr
  rw [zup3_v, if_neg (by decide), zup3_v, if_pos (by decide)]
theorem fr_1 {F : zF} {p : Int} : fr F p 14 0 1 = de p := by
  unfold fr
  rw [zup3_v, if_pos (by decide)]
theorem bpL {K : Nat} {F : zF} {B : zB} {a e : Int} (h2 : ∀ k, a ≤ k → k < e → B 14 0 7 k = 2) (hn : ¬ B 14 0 7 e = 2) (hr : r32 (B 14 0 7 e)) (a0 : 0 ≤ a) (e1 : e < 3001) : ∀ (j n : Nat) {l : Int}, a ≤ l → l ≤ e → (e - l).toNat = j → j < n → f_M_behindPitches_4 K n l F B = some (e, F, B) := by
  intro j
  induction j with
  | zero =>
    intro n l h0 h1 hj hn'
    obtain ⟨n, rfl⟩ : ∃ m, n = m + 1 := ⟨n - 1, (by first | decide | omega)⟩
    have hl : l = e := by omega
    subst hl
    rw [f_M_behindPitches_4, if_pos (by first | decide | omega), if_pos hr, if_neg hn]
  | succ j ih =>
    intro n l h0 h1 hj hn'
    obtain ⟨n, rfl⟩ : ∃ m, n = m + 1 := ⟨n - 1, (by first | decide | omega)⟩
    have e2 := h2 l h0 (by first | decide | omega)
    rw [f_M_behindPitches_4, if_pos (by first | decide | omega), e2, if_pos (by decide), if_pos rfl, ih n (by first | decide | omega) (by first | decide | omega) (by first | decide | omega) (by first | decide | omega)]
theorem L_evE {K : Nat} {F : zF} {B : zB} {i u b tf ts z come far m v w s0 cnt : Int} (hK : 812851200 < K) (hi : 0 ≤ i ∧ i < 3001) (h17 : F 14 0 17 = 0) (hU : f_M_valueOf K i F B = some (u, F, B)) (u0 : u = -1 ∨ (1 ≤ u ∧ u ≤ 1024)) (hb : F 14 0 48 = b) (b0 : 0 ≤ b ∧ b ≤ 100) (hT : TPL b tf ts B) (hz : b ≤ 2 → 6350400 = tf * z ∧ 1 ≤ z ∧ z ≤ 6350400) (c38 : F 14 0 38 = nu come) (c39 : F 14 0 39 = de come) (c0 : 0 ≤ come ∧ come ≤ 1000000000000) (hm : F 14 0 36 = m) (m0 : 0 ≤ m ∧ m ≤ 200) (hv : F 14 0 35 = v) (v0 : 0 ≤ v ∧ v < 4) (hw : F 14 0 6 = w) (w0 : 0 ≤ w ∧ w < 3) (r4 : r32 (F 13 w 4)) (r5 : r32 (F 13 w 5)) (hB : FR (100 * F 13 w 4) (F 13 w 5) far) (f0 : far ≤ 1000000000000) (hk : (B 14 0 7 i = 2 ∧ s0 = i ∧ cnt = 1) ∨ (B 14 0 7 i = 4 ∧ s0 = i + 1 ∧ cnt = -1) ∨ (B 14 0 7 i = 5 ∧ s0 = i + 1 ∧ (0 ≤ cnt ∧ s0 + cnt ≤ 3000) ∧ (∀ k, s0 ≤ k → k < s0 + cnt → B 14 0 7 k = 2) ∧ ¬ B 14 0 7 (s0 + cnt) = 2 ∧ r32 (B 14 0 7 (s0 + cnt)))) : f_M_event_0 K i F B = if 2 < b ∨ u = -1 then some (0, flM F B 12 i, B) else if 200 ≤ m ∨ far < come + z * u * ts then some (0, flM (fr (fr F (z * u * ts)) (come + z * u * ts)) B 8 i, B) else f_M_event_0_249 K K s0 (s0 + cnt) (1000 * v + m) (de (z * u * ts)) (nu (z * u * ts)) tf ts i (fr (fr F (z * u * ts)) (come + z * u * ts)) (zup4 B 13 w 21 (1000 * v + m) 0) := by
  have n12 : f_M_event_0_18 K i F B = some (0, flM F B 12 i, B) := by
    unfold f_M_event_0_18
    rw [L_failAt h17 hi, zb_s]
  unfold f_M_event_0
  rw [hU, zb_s, if_pos (by unfold r32; omega)]
  by_cases un : u < 0
  · rw [if_pos un, n12, if_pos (Or.inr (by first | decide | omega))]
  rw [if_neg un, hb, if_pos (by unfold r32; omega)]
  by_cases b2 : b ≤ 2
  case neg => rw [if_neg b2, n12, if_pos (Or.inl (by first | decide | omega))]
  have u1 : 1 ≤ u ∧ u ≤ 1024 := by omega
  obtain ⟨hz, z0⟩ := hz b2
  obtain ⟨mm, e34⟩ := L34w (K := K) (n := K) (F := F) (B := B) (u := u) (i := i) hb b0.1 b2 hT (by first | decide | omega)
  obtain ⟨_, t1, t2, _⟩ := hT
  have zu : 1 ≤ z * u := ml_1 z0.1 u1.1
  have zu2 : z * u ≤ 6350400 * 1024 := Int.mul_le_mul z0.2 u1.2 (by first | decide | omega) (by decide)
  have zt : 1 ≤ z * u * ts := ml_1 zu t2.1
  have zt2 : z * u * ts ≤ 6350400 * 1024 * 81 := Int.mul_le_mul zu2 t2.2 (by first | decide | omega) (by decide)
  have wz : WW = 128 * tf * z := by
    rw [show 128 * tf * z = 128 * (tf * z) by ac_rfl, ← hz]
    rfl
  have fL : FR (u * ts) (128 * tf) (z * u * ts) := ⟨(by first | decide | omega), ⟨z, wz⟩, Int.mul_nonneg (by first | decide | omega) (by first | decide | omega), by rw [wz]; ac_rfl⟩
  rw [if_pos b2, e34, if_neg (by first | decide | omega), f_M_event_0_34, hb, if_pos (by unfold r32; omega), if_pos (by unfold r32; omega), if_pos (Int.le_refl _), if_pos (by unfold r32; omega), if_pos (by unfold r32; omega), if_pos (by unfold r32; omega), L_isR hK fL (by first | decide | omega), zb_s, fr_0, fr_1, fr_n (by first | decide | omega), fr_n (by first | decide | omega), c38, c39, L_plusR hK (FR_r c0.1) (FR_r (by first | decide | omega)) (by first | decide | omega), zb_s]
  generalize hG : fr (fr F (z * u * ts)) (come + z * u * ts) = G
  have g : ∀ (c : Nat) (y : Int) (k : Nat), ¬ (c = 14 ∧ y = 0 ∧ k ≤ 1) → G c y k = F c y k := fun c y k n => by rw [← hG, fr_n n, fr_n n]
  have g0 : G 14 0 0 = nu (come + z * u * ts) := by rw [← hG, fr_0]
  have g1 : G 14 0 1 = de (come + z * u * ts) := by rw [← hG, fr_1]
  have n8 : f_M_event_0_159 K i G B = some (0, flM G B 8 i, B) := by
    unfold f_M_event_0_159
    rw [L_failAt (by rw [g 14 0 17 (by first | decide | omega)]; exact h17) hi, zb_s]
  rw [g 14 0 36 (by first | decide | omega), hm, if_pos (by unfold r32; omega)]
  by_cases a : m = 200
  · rw [if_pos a, n8, if_pos (Or.inl (by first | decide | omega))]
  rw [if_neg a, g 14 0 6 (by first | decide | omega), hw, if_pos w0, g 13 w 4 (by first | decide | omega), g 13 w 5 (by first | decide | omega), if_pos r4, if_pos r5, g0, g1, L_cmpR hK (FR_r (by first | decide | omega)) hB (by first | decide | omega) (by first | decide | omega), zb_s]
  have rc : r32 (if come + z * u * ts < far then -1 else if come + z * u * ts = far then 0 else 1) := by
    split
    · decide
    · split <;> decide
  rw [if_pos rc]
  by_cases c : come + z * u * ts ≤ far
  case neg =>
    rw [if_neg (by rw [if_neg (by first | decide | omega), if_neg (by first | decide | omega)]; decide), n8, if_pos (Or.inr (by first | decide | omega))]
  have rl : (if come + z * u * ts < far then (-1 : Int) else if come + z * u * ts = far then 0 else 1) ≤ 0 := by
    by_cases d : come + z * u * ts < far
    · rw [if_pos d]; decide
    · rw [if_neg d, if_pos (by first | decide | omega)]; decide
  have hR : ¬ (200 ≤ m ∨ far < come + z * u * ts) := by omega
  rw [if_pos rl, if_neg hR, g 14 0 6 (by first | decide | omega), hw, if_pos w0, g 14 0 35 (by first | decide | omega), hv, g 14 0 36 (by first | decide | omega), hm, if_pos (by first | decide | omega), if_pos hi]
  generalize hC : zup4 B 13 w 21 (1000 * v + m) 0 = C
  have e7 : ∀ k, C 14 0 7 k = B 14 0 7 k := fun k => by rw [← hC, zup4_v, if_neg (by first | decide | omega)]
  rw [e7]
  rcases hk with ⟨k1, k2, k3⟩ | ⟨k1, k2, k3⟩ | ⟨k1, k2, k3, k4, k5, k6⟩
  · rw [k1, if_pos (by decide), if_pos rfl, f_M_event_0_228, if_pos hi, e7, k1, if_pos (by decide), if_pos rfl, f_M_event_0_247, k2, k3]
  · rw [k1, if_pos (by decide), if_neg (by decide), if_neg (by decide), f_M_event_0_228, if_pos hi, e7, k1, if_pos (by decide), if_neg (by decide), f_M_event_0_247, k2, k3, show i + 1 + -1 = i by omega]
  · rw [k1, if_pos (by decide), if_neg (by decide), if_pos rfl, f_M_behindPitches, ← k2, bpL (a := s0) (e := s0 + cnt) (fun k p q => by rw [e7]; exact k4 k p q) (by rw [e7]; exact k5) (by rw [e7]; exact k6) (by first | decide | omega) (by first | decide | omega) cnt.toNat K (Int.le_refl _) (by first | decide | omega) (by first | decide | omega) (by first | decide | omega), zb_s, f_M_event_0_228, if_pos hi, e7, k1, if_pos (by decide), if_neg (by decide), f_M_event_0_247, ← k2]
end
end
section
section
/-! ===== an event made: both sides ===== -/
theorem EVW_f {w e x : Int} {F F' : zF} {B Bm B' Bm' : zB} (h : EVW w e x F B Bm) (h1 : ∀ k, F' 1 e k = F 1 e k) (h2 : ∀ k y, B' 1 e k y = B 1 e k y) (h3 : ∀ k, 16 ≤ k → k ≤ 26 → Bm' 13 w k x = Bm 13 w k x) (h4 : ∀ k y, 28 ≤ k → k ≤ 29 → 6 * x ≤ y → y < 6 * x + 6 → Bm' 13 w k y = Bm 13 w k y) (h5 : ∀ y, Bm' 14 0 8 y = Bm 14 0 8 y) : EVW w e x F' B' Bm' := by
  unfold EVW EPR at h ⊢
  simp only [h1, h2, h5, h3 16 (by decide) (by decide), h3 17 (by decide) (by decide), h3 18 (by decide) (by decide), h3 19 (by decide) (by decide), h3 20 (by decide) (by decide), h3 21 (by decide) (by decide), h3 22 (by decide) (by decide), h3 23 (by decide) (by decide), h3 24 (by decide) (by decide), h3 25 (by decide) (by decide), h3 26 (by decide) (by decide)]
  obtain ⟨a1, a2, a3, a4, a5, a6, a7, a8, a9, a10, a11, e1, e2, e3, e4, e5⟩ := h
  refine ⟨a1, a2, a3, a4, a5, a6, a7, a8, a9, a10, a11, trivial, e2, e3, fun k u v => ?_, e5⟩
  rw [h4 28 _ (by decide) (by decide) (by first | decide | omega) (by first | decide | omega), h4 29 _ (by decide) (by decide) (by first | decide | omega) (by first | decide | omega)]
  exact e4 k u v
def evB (w x a b mk ld tk ins up dn out ot : Int) (B : zB) : zB := zup4 (zup4 (zup4 (zup4 (zup4 (zup4 (zup4 (zup4 (zup4 (zup4 B 13 w 16 x a) 13 w 17 x b) 13 w 18 x mk) 13 w 19 x ld) 13 w 20 x tk) 13 w 22 x ins) 13 w 23 x up) 13 w 24 x dn) 13 w 25 x out) 13 w 26 x ot
theorem evB_n {w x a b mk ld tk ins up dn out ot : Int} {B : zB} {c k : Nat} {i y : Int} (h : ¬ (c = 13 ∧ i = w ∧ y = x ∧ 16 ≤ k ∧ k ≤ 26 ∧ ¬ k = 21)) : evB w x a b mk ld tk ins up dn out ot B c i k y = B c i k y := by
  unfold evB
  rw [zup4_v, if_neg (by first | decide | omega), zup4_v, if_neg (by first | decide | omega), zup4_v, if_neg (by first | decide | omega), zup4_v, if_neg (by first | decide | omega), zup4_v, if_neg (by first | decide | omega), zup4_v, if_neg (by first | decide | omega), zup4_v, if_neg (by first | decide | omega), zup4_v, if_neg (by first | decide | omega), zup4_v, if_neg (by first | decide | omega), zup4_v, if_neg (by first | decide | omega)]
theorem evB_v {w x a b mk ld tk ins up dn out ot : Int} {B : zB} : evB w x a b mk ld tk ins up dn out ot B 13 w 16 x = a ∧ evB w x a b mk ld tk ins up dn out ot B 13 w 17 x = b ∧ evB w x a b mk ld tk ins up dn out ot B 13 w 18 x = mk ∧ evB w x a b mk ld tk ins up dn out ot B 13 w 19 x = ld ∧ evB w x a b mk ld tk ins up dn out ot B 13 w 20 x = tk ∧ evB w x a b mk ld tk ins up dn out ot B 13 w 22 x = ins ∧ evB w x a b mk ld tk ins up dn out ot B 13 w 23 x = up ∧ evB w x a b mk ld tk ins up dn out ot B 13 w 24 x = dn ∧ evB w x a b mk ld tk ins up dn out ot B 13 w 25 x = out ∧ evB w x a b mk ld tk ins up dn out ot B 13 w 26 x = ot := by
  simp [evB, zup4_v]
theorem C273 {K : zK} {F : zF} {B : zB} {len q : Int} (h11 : 0 < K.2 11) (h4 : 0 ≤ q ∧ q < K.2 4) (h1 : F 11 0 1 = q) : f_Walker_makeEvent_273 K len 0 F B = some (0, zup3 (zup3 F 4 q 6 (F 4 q 6 + 1)) 11 0 11 (F 11 0 11 + len), B) := by
  unfold f_Walker_makeEvent_273
  rw [if_pos ⟨Int.le_refl _, h11⟩, h1, if_pos h4]
def evG (p : Int) (F : zF) : zF := zup3 (zup3 (zup3 (fr F p) 14 0 38 (nu p)) 14 0 39 (de p)) 14 0 36 (F 14 0 36 + 1)
theorem evG_n {p : Int} {F : zF} {c k : Nat} {y : Int} (h : ¬ (c = 14 ∧ y = 0 ∧ (k ≤ 1 ∨ k = 36 ∨ k = 38 ∨ k = 39))) : evG p F c y k = F c y k := by
  unfold evG
  rw [zup3_v, if_neg (by first | decide | omega), zup3_v, if_neg (by first | decide | omega), zup3_v, if_neg (by first | decide | omega), fr_n (by first | decide | omega)]
theorem evG_v {p : Int} {F : zF} : evG p F 14 0 36 = F 14 0 36 + 1 ∧ evG p F 14 0 38 = nu p ∧ evG p F 14 0 39 = de p := by
  simp [evG, zup3_v]
theorem L277 {K : Nat} {F : zF} {B : zB} {x l4 l3 i come len w : Int} (hK : 812851200 < K) (h17 : F 14 0 17 = 0) (c38 : F 14 0 38 = nu come) (c39 : F 14 0 39 = de come) (c0 : 0 ≤ come ∧ come ≤ 1000000000000) (l0 : 0 ≤ len ∧ len ≤ 1000000000000) (hw : F 14 0 6 = w) (w0 : 0 ≤ w ∧ w < 3) (hx : 0 ≤ x ∧ x < 4000) (hi : 0 ≤ i ∧ i < 3001) (hb : 0 ≤ F 14 0 48 ∧ F 14 0 48 ≤ 100) : f_M_event_0_277 K x (de len) (nu len) l4 l3 i F B = some (0, evG (come + len) F, evB w x (nu len) (de len) (B 14 0 34 i) (F 14 0 40) i (F 14 0 48) l3 l4 (if F 14 0 48 ≤ 0 then 0 else F 14 0 50) (F 14 0 49) B) := by
  unfold f_M_event_0_277
  rw [L_good h17, zb_s, if_pos (by decide), if_neg (by decide), c38, c39, L_plusR hK (FR_r c0.1) (FR_r l0.1) (by first | decide | omega), zb_s]
  generalize hG : fr F (come + len) = G
  have g : ∀ (k : Nat), ¬ k ≤ 1 → G 14 0 k = F 14 0 k := fun k n => by rw [← hG, fr_n (by first | decide | omega)]
  have g0 : G 14 0 0 = nu (come + len) := by rw [← hG, fr_0]
  have g1 : G 14 0 1 = de (come + len) := by rw [← hG, fr_1]
  rw [g 6 (by first | decide | omega), hw, if_pos w0, if_pos hx, if_pos hi, g 48 (by first | decide | omega), if_pos (by unfold r32; omega), g0, g1, g 40 (by first | decide | omega), g 50 (by first | decide | omega)]
  have q : ∀ (k : Nat), ¬ (k ≤ 1 ∨ k = 38 ∨ k = 39) → (zup3 (zup3 G 14 0 38 (nu (come + len))) 14 0 39 (de (come + len))) 14 0 k = F 14 0 k := fun k n => by
    rw [zup3_v, if_neg (by first | decide | omega), zup3_v, if_neg (by first | decide | omega), g k (by first | decide | omega)]
  have z : ∀ out C, f_M_event_0_443 K x w x out (zup3 (zup3 G 14 0 38 (nu (come + len))) 14 0 39 (de (come + len))) C = some (0, evG (come + len) F, zup4 (zup4 C 13 w 25 x out) 13 w 26 x (F 14 0 49)) := fun out C => by
    unfold f_M_event_0_443 evG
    rw [hG, if_pos w0, if_pos hx, q 6 (by first | decide | omega), hw, if_pos w0, if_pos hx, q 36 (by first | decide | omega), q 49 (by first | decide | omega)]
  have m34 : (zup4 (zup4 B 13 w 16 x (nu len)) 13 w 17 x (de len)) 14 0 34 i = B 14 0 34 i := by
    rw [zup4_v, if_neg (by first | decide | omega), zup4_v, if_neg (by first | decide | omega)]
  rw [m34, z, z]
  by_cases c : F 14 0 48 ≤ 0
  · rw [if_pos c, if_pos c]
    rfl
  · rw [if_neg c, if_neg c]
    rfl
theorem L277b {K : Nat} {F : zF} {B : zB} {x l4 l3 i a b : Int} (h : bad F) : f_M_event_0_277 K x a b l4 l3 i F B = some (0, F, B) := by
  unfold f_M_event_0_277
  rw [L_goodB h, zb_s, if_pos (by decide), if_pos rfl]
end
end
section
section
/-! ===== an event made: both sides ===== -/
def WC (K : zK) (Km : Nat) (N q v w bar : Int) (B : zB) (Fm : zF) (Bm : zB) : Prop := 3002 ≤ K.1 ∧ 812851200 < Km ∧ 0 < K.2 11 ∧ 0 < K.2 3 ∧ (0 ≤ q ∧ q < K.2 4) ∧ (0 ≤ v ∧ v < 4) ∧ (0 ≤ w ∧ w < 3) ∧ TK B Bm N ∧ (∀ t, 0 ≤ t → t < 200 → 0 ≤ B 4 q 5 t ∧ B 4 q 5 t < K.2 1) ∧ inJ q B ∧ (r32 (Fm 13 w 4) ∧ r32 (Fm 13 w 5) ∧ FR (100 * Fm 13 w 4) (Fm 13 w 5) (100 * bar) ∧ 100 * bar ≤ 1000000000000 ∧ (1 ≤ Fm 13 w 4 ∧ Fm 13 w 4 ≤ 12) ∧ (1 ≤ Fm 13 w 5 ∧ Fm 13 w 5 ≤ 16) ∧ 0 < bar)
theorem WE_at {D : Nat} {q v w bar s i : Int} {F : zF} {B : zB} {Fm G : zF} {Bm : zB} (h : WS q v w bar D F B Fm Bm) (hD : D ≤ 64) (s0 : 1 ≤ s) (s1 : s ≤ 15) (hp : 0 ≤ Bm 14 0 8 i ∧ Bm 14 0 8 i ≤ 3000) (hG : ∀ k, ¬ k ≤ 1 → G 14 0 k = Fm 14 0 k) : WE D q v w (zup3 F 11 0 2 (s + 16 * Bm 14 0 8 i)) (flM G Bm s i) := by
  obtain ⟨⟨a1, a2, a3, a4⟩, ⟨b1, b2, b3, b4⟩, ⟨c1, c2, c3⟩, d, e, f, g, h, k, l, m, n, ⟨o1, o2, o3, o4⟩⟩ := h
  refine ⟨?_, ?_, ?_, flM_b s0 s1, ?_, ?_, ?_, ?_, ?_, ?_⟩
  · rw [zup3_v, if_neg (by decide)]; exact a1
  · rw [zup3_v, if_neg (by decide)]; exact a2
  · rw [zup3_v, if_pos (by decide), flM_17, flM_18]
  · rw [flM_18]; exact hp
  · rw [flM_n (by decide), hG 35 (by decide)]; exact b1
  · rw [flM_n (by decide), hG 6 (by decide)]; exact b2
  · rw [zup3_v, if_neg (by first | decide | omega)]; omega
  · rw [flM_n (by decide), hG 36 (by decide)]; omega
  · rw [zup3_v, if_neg (by decide)]; omega
theorem WFR_at {q v w s i x : Int} {F : zF} {B : zB} {Fm G : zF} {Bm : zB} (hG : ∀ c y k, ¬ (c = 14 ∧ y = 0 ∧ k ≤ 1) → G c y k = Fm c y k) : WFR q v w F B Fm Bm (zup3 F 11 0 2 x) B (flM G Bm s i) Bm := by
  refine ⟨fun c y k a b d => by rw [zup3_v, if_neg (by first | decide | omega)], fun _ _ _ _ _ _ _ => rfl, fun _ => Iff.rfl, fun c i k a => ?_, fun _ _ _ _ _ _ => rfl, fun h => ⟨h, fun c => ⟨by rw [zup3_v, if_neg (by first | decide | omega)]; exact c, SD_c (by rw [zup3_v, if_neg (by first | decide | omega)]) (by rw [zup3_v, if_neg (by first | decide | omega)]) c (fun j _ _ => by rw [zup3_v, if_neg (by first | decide | omega)])⟩⟩⟩
  rw [flM_n (by first | decide | omega), hG c i k (by first | decide | omega)]
theorem P_event {K : zK} {Km : Nat} {N q v w bar x i : Int} {D : Nat} {F : zF} {B : zB} {Fm : zF} {Bm : zB} (hC : WC K Km N q v w bar B Fm Bm) (hS : WS q v w bar D F B Fm Bm) (hD : D ≤ 64) (hx : 0 ≤ x ∧ x < 3000) (hi : 0 ≤ i ∧ i < N) (hpl : B 3 0 1 x = Bm 14 0 8 i) (hev : evR B Bm x i) : zP (f_Walker_makeEvent K 0 x F B) (f_M_event_0 Km i Fm Bm) (fun _ F' B' _ Fm' Bm' => WO q v w bar D F B Fm Bm F' B' Fm' Bm') := by
  have hS' := hS
  obtain ⟨hK, hKm, h11, h3, h4, v0, w0, ⟨N0, N1, hT⟩, hV, hI, r4, r5, hB, fB⟩ := hC
  obtain ⟨⟨a1, a2, a3, a4⟩, ⟨b1, b2, b3, b4⟩, ⟨c1, c2, c3⟩, ⟨d1, d2, d3⟩, ⟨e1, e2, e3⟩, ⟨f1, f2, f3⟩, ⟨g1, g2, g3⟩, hh, hk, ⟨l1, l2, l3, l4⟩, hm, ⟨n1, n2, n3, n4⟩, ⟨o1, o2, o3, o4⟩⟩ := hS
  obtain ⟨v1, v2, v3, v4, v5, v6, v7⟩ := hev
  have pl : ∀ t, 0 ≤ t → t ≤ N → 0 ≤ Bm 14 0 8 t ∧ Bm 14 0 8 t ≤ 3000 := fun t p r => (hT t p r).2.2.2.2.2.2.2.2.2.1
  have pli := pl i hi.1 (by first | decide | omega)
  have m0 := hm 0 (by decide) (by decide)
  have m1 := hm 1 (by decide) (by decide)
  have m2 := hm 2 (by decide) (by decide)
  have m3 := hm 3 (by decide) (by decide)
  rw [show prN 0 = 2 by decide] at m0
  rw [show prN 1 = 3 by decide] at m1
  rw [show prN 2 = 5 by decide] at m2
  rw [show prN 3 = 7 by decide] at m3
  have hc := C_slowed (K := K) (F := F) (B := B) v1 v2 v3 h11 (by first | decide | omega) (fun k p r => by have := hm k p r; omega)
  have hl := L_valueOf (K := Km) (F := Fm) (B := Bm) (i := i) (by first | decide | omega) rfl rfl v2 v3 (fun k p => by rcases p with rfl | rfl | rfl | rfl <;> omega) (by first | decide | omega)
  rw [← m0.1, ← m1.1, ← m2.1, ← m3.1] at hl
  generalize hU : slV (B 11 0 14 0 + 7 - Bm 14 0 33 i - lg2 (Bm 14 0 32 i)) (B 11 0 14 1 + if Bm 14 0 33 i = 1 then 1 else 0) (B 11 0 14 2) (B 11 0 14 3 + if Bm 14 0 33 i = 2 then 1 else 0) = U at hc hl
  have ub : U = -1 ∨ (1 ≤ U ∧ U ≤ 1024) := by rw [← hU]; exact slV_b
  clear hU
  have kd : ∃ s0 cnt, ((Bm 14 0 7 i = 2 ∧ s0 = i ∧ cnt = 1) ∨ (Bm 14 0 7 i = 4 ∧ s0 = i + 1 ∧ cnt = -1) ∨ (Bm 14 0 7 i = 5 ∧ s0 = i + 1 ∧ (0 ≤ cnt ∧ s0 + cnt ≤ 3000) ∧ (∀ k, s0 ≤ k → k < s0 + cnt → Bm 14 0 7 k = 2) ∧ ¬ Bm 14 0 7 (s0 + cnt) = 2 ∧ r32 (Bm 14 0 7 (s0 + cnt)))) ∧ (cnt = B 3 0 6 x ∨ (cnt = -1 ∧ B 3 0 6 x = 0)) ∧ (0 ≤ B 3 0 6 x ∧ B 3 0 6 x ≤ 6) ∧ (0 ≤ s0 ∧ s0 + B 3 0 6 x ≤ N) ∧ pitR B Bm (B 3 0 3 x) s0 (B 3 0 6 x) := by
    rcases v7 with ⟨⟨p1, _⟩, p2⟩ | ⟨p1, p2⟩ | ⟨⟨p1, _⟩, p2, p3, p4⟩
    · exact ⟨i + 1, -1, Or.inr (Or.inl ⟨p1, rfl, rfl⟩), Or.inr ⟨rfl, p2⟩, (by first | decide | omega), (by first | decide | omega), fun k u t => (by first | decide | omega)⟩
    · have := (p2 0 (by decide) (by decide)).2.2.2
      rw [Int.add_zero] at this
      exact ⟨i, 1, Or.inl ⟨this, rfl, rfl⟩, Or.inl p1.symm, (by first | decide | omega), (by first | decide | omega), by rw [p1]; exact p2⟩
    · have k2 : ∀ k, i + 1 ≤ k → k < i + 1 + B 3 0 6 x → Bm 14 0 7 k = 2 := fun k u t => by
        have := (p3 (k - (i + 1)) (by first | decide | omega) (by first | decide | omega)).2.2.2
        rwa [show i + 1 + (k - (i + 1)) = k by omega] at this
      have kN : i + 1 + B 3 0 6 x ≤ N := by
        rcases Int.lt_or_le N (i + 1 + B 3 0 6 x) with z | z
        · have y1 := k2 N (by first | decide | omega) z
          have y2 := (hT N N0 (Int.le_refl _)).2.2.2.1.mpr rfl
          omega
        · exact z
      have kr := (hT (i + 1 + B 3 0 6 x) (by first | decide | omega) kN).2.2.1
      exact ⟨i + 1, B 3 0 6 x, Or.inr (Or.inr ⟨p1, rfl, (by first | decide | omega), k2, p4, by unfold r32; omega⟩), Or.inl rfl, (by first | decide | omega), (by first | decide | omega), p3⟩
  obtain ⟨s0, cnt, kd1, kd2, kd3, kd4, kd5⟩ := kd
  have hz : F 11 0 6 ≤ 2 → ∃ z, 6350400 = F 11 0 9 * z ∧ 1 ≤ z ∧ z ≤ 6350400 := fun h => TPL_d hk f2 h
  obtain ⟨z, hz⟩ : ∃ z, F 11 0 6 ≤ 2 → 6350400 = F 11 0 9 * z ∧ 1 ≤ z ∧ z ≤ 6350400 := by
    by_cases h : F 11 0 6 ≤ 2
    · obtain ⟨z, hz⟩ := hz h
      exact ⟨z, fun _ => hz⟩
    · exact ⟨0, fun y => absurd y h⟩
  have hk' := hk
  obtain ⟨_, t1, t2, _⟩ := hk'
  rw [L_evE (u := U) (z := z) (come := F 11 0 11) (far := 100 * bar) (m := F 4 q 6) (cnt := cnt) hKm (by first | decide | omega) a4 hl ub f1.symm (by first | decide | omega) hk hz l1 l2 (by first | decide | omega) o1.symm (by first | decide | omega) b1 v0 b2 w0 r4 r5 hB (by first | decide | omega) kd1]
  by_cases q1 : 2 < F 11 0 6 ∨ U = -1
  · rw [if_pos q1]
    have e : f_Walker_makeEvent K 0 x F B = some (0, zup3 F 11 0 2 (12 + 16 * Bm 14 0 8 i), B) := by
      unfold f_Walker_makeEvent
      rw [if_pos ⟨Int.le_refl _, h11⟩, a1, if_pos ⟨Int.le_refl _, h3⟩, if_pos hx, if_pos (by unfold r32; omega)]
      by_cases b2 : F 11 0 6 ≤ 2
      · have un : U = -1 := by omega
        rw [if_pos b2, hc, zb_s, un, C35a h11 a3, hpl]
      · rw [if_neg b2, C35a h11 a3, hpl]
    rw [e]
    exact zP_s ⟨WFR_at (fun _ _ _ _ => rfl), Or.inr (WE_at hS' hD (by decide) (by decide) pli (fun _ _ => rfl))⟩
  rw [if_neg q1]
  have u1 : 1 ≤ U ∧ U ≤ 1024 := ub.resolve_left (fun h => q1 (Or.inr h))
  obtain ⟨hz1, hz2⟩ := hz (by first | decide | omega)
  have c35 := C35b (K := K) (F := F) (B := B) (x := x) (pl := Bm 14 0 8 i) (u := U) (q := q) (e := B 4 q 5 (F 4 q 6)) (z := z) h11 h3 h4 hx a1 a2 a3 rfl (by first | decide | omega) rfl (by first | decide | omega) rfl t1 rfl t2 hz1 hz2 u1 rfl (by first | decide | omega) b4 (by first | decide | omega) (fun h => ⟨rfl, hV _ (by first | decide | omega) h⟩)
  have ce : f_Walker_makeEvent K 0 x F B = f_Walker_makeEvent_35 K (Bm 14 0 8 i) 0 x U F B := by
    unfold f_Walker_makeEvent
    rw [if_pos ⟨Int.le_refl _, h11⟩, a1, if_pos ⟨Int.le_refl _, h3⟩, if_pos hx, if_pos (by unfold r32; omega), if_pos (by first | decide | omega), hc, zb_s, hpl]
  rw [ce, c35]
  have zu : 1 ≤ z * U := ml_1 hz2.1 u1.1
  have zu2 : z * U ≤ 6350400 * 1024 := Int.mul_le_mul hz2.2 u1.2 (Int.le_trans (by decide) u1.1) (by decide)
  have zt : 1 ≤ z * U * F 11 0 10 := ml_1 zu t2.1
  have zt2 : z * U * F 11 0 10 ≤ 6350400 * 1024 * 81 := Int.mul_le_mul zu2 t2.2 (by first | decide | omega) (by decide)
  by_cases q2 : 200 ≤ F 4 q 6 ∨ 100 * bar < F 11 0 11 + z * U * F 11 0 10
  · rw [if_pos q2, if_pos q2]
    exact zP_s ⟨WFR_at (fun c y k n => by rw [fr_n n, fr_n n]), Or.inr (WE_at hS' hD (by decide) (by decide) pli (fun k n => by rw [fr_n (by first | decide | omega), fr_n (by first | decide | omega)]))⟩
  rw [if_neg q2, if_neg q2]
  generalize hlen : z * U * F 11 0 10 = len at zt zt2 q2 ⊢
  generalize hm' : F 4 q 6 = m at o1 o2 o3 o4 q2 ⊢
  generalize hE : B 4 q 5 m = e
  have he := hV m (by first | decide | omega) (by first | decide | omega)
  rw [hE] at he
  generalize hF2 : evF e len U (F 11 0 9) (F 11 0 10) (if F 11 0 6 = 0 then 0 else F 11 0 7) (F 11 0 8) (B 3 0 7 x) (F 11 0 4) (Bm 14 0 8 i) F = F2
  generalize hG2 : fr (fr Fm len) (F 11 0 11 + len) = G2
  generalize hM2 : zup4 Bm 13 w 21 (1000 * v + m) 0 = M2
  have fn : ∀ c y k, ¬ (c = 1 ∧ y = e) → F2 c y k = F c y k := fun c y k n => by rw [← hF2, evF_n (fun u => n ⟨u.1, u.2.1⟩)]
  have gn : ∀ c y k, ¬ (c = 14 ∧ y = 0 ∧ k ≤ 1) → G2 c y k = Fm c y k := fun c y k n => by rw [← hG2, fr_n n, fr_n n]
  have mn : ∀ c y k t, ¬ (c = 13 ∧ y = w ∧ k = 21 ∧ t = 1000 * v + m) → M2 c y k t = Bm c y k t := fun c y k t n => by rw [← hM2, zup4_v, if_neg n]
  have ev := evF_v (e := e) (len := len) (u := U) (tf := F 11 0 9) (ts := F 11 0 10) (br := if F 11 0 6 = 0 then 0 else F 11 0 7) (bp := F 11 0 8) (mk := B 3 0 7 x) (ld := F 11 0 4) (tok := Bm 14 0 8 i) (F := F)
  rw [hF2] at ev
  have E0 : EPR e (1000 * v + m) w 0 F2 B M2 := ⟨ev.2.2.2.2.2.2.2.2.2, by rw [← hM2, zup4_v, if_pos (by first | decide | omega)], (by first | decide | omega), fun k u t => (by first | decide | omega), fun j k u t s => (by first | decide | omega)⟩
  have PH : PLH x s0 (B 3 0 6 x) (B 3 0 3 x) (F 11 0 18).toNat F2 B M2 := by
    refine ⟨by rw [fn _ _ _ (by first | decide | omega)]; exact a1, by rw [fn _ _ _ (by first | decide | omega)]; exact a3, by rw [fn _ _ _ (by first | decide | omega)]; omega, rfl, rfl, fun k u t => ?_, fun t u s => ?_⟩
    · have := n4 k (by first | decide | omega) (by first | decide | omega)
      unfold CRk at this ⊢
      rw [mn _ _ _ _ (by first | decide | omega), mn _ _ _ _ (by first | decide | omega), mn _ _ _ _ (by first | decide | omega)]
      exact this
    · obtain ⟨y1, y2, y3, y4⟩ := kd5 t u s
      have y5 := (hT (s0 + t) (by first | decide | omega) (by first | decide | omega)).2.2.2.2.1 y4
      rw [mn _ _ _ _ (by first | decide | omega), mn _ _ _ _ (by first | decide | omega), mn _ _ _ _ (by first | decide | omega)]
      exact ⟨y1, y2, y3, (by first | decide | omega), (by first | decide | omega)⟩
  have own : ownE B q e := ⟨m, (by first | decide | omega), (by first | decide | omega), hE⟩
  have frm : ∀ F' B' Bm' X G C, lFr e (1000 * v + m) w F2 B M2 F' B' Bm' → (∀ c y k, ¬ (c = 11 ∧ y = 0) → ¬ (c = 4 ∧ y = q ∧ k = 6) → X c y k = F' c y k) → (∀ c y k, ¬ (c = 14 ∧ y = 0 ∧ (k ≤ 1 ∨ k = 17 ∨ k = 18 ∨ (36 ≤ k ∧ k ≤ 50))) → G c y k = Fm c y k) → (∀ c y k t, ¬ (c = 13 ∧ y = w ∧ t = 1000 * v + m ∧ 16 ≤ k ∧ k ≤ 26) → C c y k t = Bm' c y k t) → X 11 0 11 = F 11 0 11 + len → X 4 q 6 = m + 1 → WFR q v w F B Fm Bm X B' G C := by
    intro F' B' Bm' X G C hf hX hG hC hX11 hX6
    refine ⟨fun c y k s t u => ?_, fun c y k t s p r => ?_, fun y => ?_, hG, fun c y k t s u => ?_, fun h => ⟨fun t t' p r p' r' s => ?_, fun cb => ⟨(by first | decide | omega), ?_⟩⟩⟩
    · have ne : ¬ (c = 1 ∧ y = e) := fun p => u ⟨p.1, by rw [p.2]; exact own⟩
      rw [hX c y k s t, hf.1 c y k (fun p => ne ⟨p.1, p.2.1⟩) (fun p => s ⟨p.1, p.2.1⟩), fn c y k ne]
    · have ne : ¬ (c = 1 ∧ y = e) := fun p => r ⟨p.1, by rw [p.2]; exact own⟩
      exact hf.2.1 c y k t (fun p => ne ⟨p.1, p.2.1⟩)
    · unfold ownE
      constructor
      · intro ⟨j, j0, j1, j2⟩
        exact ⟨j, j0, j1, by rw [← j2, hf.2.1 4 q 5 j (by first | decide | omega)]⟩
      · intro ⟨j, j0, j1, j2⟩
        exact ⟨j, j0, j1, by rw [← j2, hf.2.1 4 q 5 j (by first | decide | omega)]⟩
    · unfold inV at u
      rw [hC c y k t (by first | decide | omega), hf.2.2 c y k t (by first | decide | omega), mn c y k t (by first | decide | omega)]
    · rw [hf.2.1 4 q 5 t (by first | decide | omega), hf.2.1 4 q 5 t' (by first | decide | omega)] at s
      exact h t t' p r p' r' s
    · unfold SD
      rw [hX11, hX6, hm']
      obtain ⟨mn', hmn⟩ : ∃ k : Nat, m = k := ⟨m.toNat, (by first | decide | omega)⟩
      rw [show (m + 1).toNat = mn' + 1 by omega, show m.toNat = mn' by omega, sumZ]
      have e1 : X 1 (B' 4 q 5 (mn' : Int)) 1 = len := by
        rw [← hmn, hf.2.1 4 q 5 m (by first | decide | omega), hE, hX 1 e 1 (by first | decide | omega) (by first | decide | omega), hf.1 1 e 1 (by first | decide | omega) (by first | decide | omega), ev.1]
      have e2 : sumZ (fun j => X 1 (B' 4 q 5 j) 1) mn' = sumZ (fun j => F 1 (B 4 q 5 j) 1) mn' := sumZ_c (fun j a b => by
        have ne : ¬ B 4 q 5 j = e := fun y => by
          have := h j m (by first | decide | omega) (by first | decide | omega) (by first | decide | omega) (by first | decide | omega) (by rw [y, hE])
          omega
        rw [hf.2.1 4 q 5 j (by first | decide | omega), hX 1 _ 1 (by first | decide | omega) (by first | decide | omega), hf.1 1 _ 1 (fun u => ne u.2.1) (by first | decide | omega), fn 1 _ 1 (fun u => ne u.2)])
      rw [e2]
      show F 11 0 11 + len - (_ + X 1 (B' 4 q 5 (mn' : Int)) 1) = _
      rw [e1]
      omega
  have okC : ∀ F' B' Bm', lFr e (1000 * v + m) w F2 B M2 F' B' Bm' → F' 11 0 2 = 0 → EPR e (1000 * v + m) w (B 3 0 6 x) F' B' Bm' → zP (f_Walker_makeEvent_273 K len 0 F' B') (f_M_event_0_277 Km (1000 * v + m) (de len) (nu len) (F 11 0 9) (F 11 0 10) i G2 Bm') (fun _ F' B' _ Fm' Bm' => WO q v w bar D F B Fm Bm F' B' Fm' Bm') := by
    intro F' B' Bm' hf h2 hEP
    have fF : ∀ (c : Nat) y k, ¬ c = 1 → ¬ (c = 11 ∧ y = 0 ∧ k = 2) → F' c y k = F c y k := fun c y k n n' => by rw [hf.1 c y k (fun u => n u.1) n', fn c y k (fun u => n u.1)]
    have fm : ∀ (c : Nat) y k t, ¬ c = 13 → Bm' c y k t = Bm c y k t := fun c y k t n => by rw [hf.2.2 c y k t (fun u => n u.1), mn c y k t (fun u => n u.1)]
    rw [C273 (q := q) h11 h4 (by rw [fF 11 0 1 (by decide) (by first | decide | omega)]; exact a2), L277 (come := F 11 0 11) (w := w) hKm (by rw [gn _ _ _ (by first | decide | omega)]; exact a4) (by rw [gn _ _ _ (by first | decide | omega)]; exact l1) (by rw [gn _ _ _ (by first | decide | omega)]; exact l2) (by first | decide | omega) (by first | decide | omega) (by rw [gn _ _ _ (by first | decide | omega)]; exact b2) w0 (by first | decide | omega) (by first | decide | omega) (by rw [gn _ _ _ (by first | decide | omega), ← f1]; omega), fF 4 q 6 (by decide) (by first | decide | omega), fF 11 0 11 (by decide) (by first | decide | omega), hm', gn 14 0 40 (by first | decide | omega), gn 14 0 48 (by first | decide | omega), gn 14 0 50 (by first | decide | omega), gn 14 0 49 (by first | decide | omega), fm 14 0 34 i (by decide)]
    generalize hX : zup3 (zup3 F' 4 q 6 (m + 1)) 11 0 11 (F 11 0 11 + len) = X
    generalize hY : evG (F 11 0 11 + len) G2 = Y
    generalize hZ : evB w (1000 * v + m) (nu len) (de len) (Bm 14 0 34 i) (Fm 14 0 40) i (Fm 14 0 48) (F 11 0 10) (F 11 0 9) (if Fm 14 0 48 ≤ 0 then 0 else Fm 14 0 50) (Fm 14 0 49) Bm' = Z
    have xn : ∀ (c : Nat) y k, ¬ c = 1 → ¬ (c = 11 ∧ y = 0 ∧ (k = 2 ∨ k = 11)) → ¬ (c = 4 ∧ y = q ∧ k = 6) → X c y k = F c y k := fun c y k n n' n'' => by rw [← hX, zup3_v, if_neg (by first | decide | omega), zup3_v, if_neg (by first | decide | omega), fF c y k n (by first | decide | omega)]
    have x1 : ∀ y k, X 1 y k = F' 1 y k := fun y k => by rw [← hX, zup3_v, if_neg (by first | decide | omega), zup3_v, if_neg (by first | decide | omega)]
    have x2 : X 11 0 2 = 0 := by rw [← hX, zup3_v, if_neg (by first | decide | omega), zup3_v, if_neg (by first | decide | omega)]; exact h2
    have x11 : X 11 0 11 = F 11 0 11 + len := by rw [← hX, zup3_v, if_pos (by decide)]
    have x6 : X 4 q 6 = m + 1 := by rw [← hX, zup3_v, if_neg (by first | decide | omega), zup3_v, if_pos (by first | decide | omega)]
    have yn : ∀ c y k, ¬ (c = 14 ∧ y = 0 ∧ (k ≤ 1 ∨ k = 36 ∨ k = 38 ∨ k = 39)) → Y c y k = Fm c y k := fun c y k n => by rw [← hY, evG_n n, gn c y k (by first | decide | omega)]
    have yv := evG_v (p := F 11 0 11 + len) (F := G2)
    rw [hY, gn 14 0 36 (by first | decide | omega), ← o1] at yv
    have zn : ∀ c y k t, ¬ (c = 13 ∧ y = w ∧ t = 1000 * v + m ∧ 16 ≤ k ∧ k ≤ 26 ∧ ¬ k = 21) → Z c y k t = Bm' c y k t := fun c y k t n => by rw [← hZ, evB_n (fun u => n ⟨u.1, u.2.1, u.2.2.1, u.2.2.2⟩)]
    have zv := evB_v (w := w) (x := 1000 * v + m) (a := nu len) (b := de len) (mk := Bm 14 0 34 i) (ld := Fm 14 0 40) (tk := i) (ins := Fm 14 0 48) (up := F 11 0 10) (dn := F 11 0 9) (out := if Fm 14 0 48 ≤ 0 then 0 else Fm 14 0 50) (ot := Fm 14 0 49) (B := Bm')
    rw [hZ] at zv
    have z14 : ∀ k t, Z 14 0 k t = Bm 14 0 k t := fun k t => by rw [zn _ _ _ _ (by first | decide | omega), fm _ _ _ _ (by decide)]
    have b' : ∀ (c : Nat) y k t, ¬ c = 1 → B' c y k t = B c y k t := fun c y k t n => hf.2.1 c y k t (fun u => n u.1)
    refine zP_s ⟨frm F' B' Bm' X Y Z hf (fun c y k n n' => by rw [← hX, zup3_v, if_neg (by first | decide | omega), zup3_v, if_neg (by first | decide | omega)]) (fun c y k n => yn c y k (by first | decide | omega)) (fun c y k t n => zn c y k t (by first | decide | omega)) x11 x6, Or.inl ⟨?_, ?_⟩⟩
    · refine ⟨⟨by rw [xn _ _ _ (by decide) (by first | decide | omega) (by first | decide | omega)]; exact a1, by rw [xn _ _ _ (by decide) (by first | decide | omega) (by first | decide | omega)]; exact a2, x2, by rw [yn _ _ _ (by first | decide | omega)]; exact a4⟩, ⟨by rw [yn _ _ _ (by first | decide | omega)]; exact b1, by rw [yn _ _ _ (by first | decide | omega)]; exact b2, by rw [xn _ _ _ (by decide) (by first | decide | omega) (by first | decide | omega)]; exact b3, by rw [xn _ _ _ (by decide) (by first | decide | omega) (by first | decide | omega)]; exact b4⟩, ?_, ?_, ?_, ?_, ?_, ?_, ?_, ?_, ?_, ?_, ?_⟩
      · rw [xn _ _ _ (by decide) (by first | decide | omega) (by first | decide | omega), yn _ _ _ (by first | decide | omega)]; exact ⟨c1, c2, c3⟩
      · rw [xn _ _ _ (by decide) (by first | decide | omega) (by first | decide | omega), yn _ _ _ (by first | decide | omega)]; exact ⟨d1, d2, d3⟩
      · rw [xn _ _ _ (by decide) (by first | decide | omega) (by first | decide | omega), yn _ _ _ (by first | decide | omega)]; exact ⟨e1, e2, e3⟩
      · rw [xn _ _ _ (by decide) (by first | decide | omega) (by first | decide | omega), yn _ _ _ (by first | decide | omega)]; exact ⟨f1, f2, f3⟩
      · rw [xn 11 0 7 (by decide) (by first | decide | omega) (by first | decide | omega), xn 11 0 3 (by decide) (by first | decide | omega) (by first | decide | omega), yn _ _ _ (by first | decide | omega)]; exact ⟨g1, g2, g3⟩
      · rw [xn 11 0 6 (by decide) (by first | decide | omega) (by first | decide | omega), xn 11 0 7 (by decide) (by first | decide | omega) (by first | decide | omega), xn 11 0 8 (by decide) (by first | decide | omega) (by first | decide | omega), yn _ _ _ (by first | decide | omega), z14]; exact hh
      · rw [xn 11 0 6 (by decide) (by first | decide | omega) (by first | decide | omega), xn 11 0 9 (by decide) (by first | decide | omega) (by first | decide | omega), xn 11 0 10 (by decide) (by first | decide | omega) (by first | decide | omega)]
        unfold TPL at hk ⊢
        simp only [z14]
        exact hk
      · rw [x11]
        exact ⟨yv.2.1, yv.2.2, (by first | decide | omega), (by first | decide | omega)⟩
      · intro k u t
        rw [b' _ _ _ _ (by decide), z14]
        exact hm k u t
      · rw [xn _ _ _ (by decide) (by first | decide | omega) (by first | decide | omega), yn _ _ _ (by first | decide | omega)]
        refine ⟨n1, n2, n3, fun k u t => ?_⟩
        have := n4 k u t
        unfold CRk at this ⊢
        rw [b' 11 _ _ _ (by decide), b' 11 _ _ _ (by decide), b' 11 _ _ _ (by decide), z14, z14, z14]
        exact this
      · rw [x6]
        refine ⟨yv.1.symm, (by first | decide | omega), (by first | decide | omega), fun j j0 j1 => ?_⟩
        rw [b' 4 q 5 j (by decide)]
        by_cases jm : j = m
        · subst jm
          rw [hE]
          have w1 : ∀ k, ¬ k = 10 → X 1 e k = F2 1 e k := fun k n => by rw [x1, hf.1 1 e k (by first | decide | omega) (by first | decide | omega)]
          unfold EVW
          obtain ⟨E1, E2, E3, E4, E5⟩ := hEP
          rw [w1 1 (by decide), w1 2 (by decide), w1 3 (by decide), w1 4 (by decide), w1 5 (by decide), w1 6 (by decide), w1 7 (by decide), w1 8 (by decide), w1 9 (by decide), ev.1, ev.2.1, ev.2.2.1, ev.2.2.2.1, ev.2.2.2.2.1, ev.2.2.2.2.2.1, ev.2.2.2.2.2.2.1, ev.2.2.2.2.2.2.2.1, ev.2.2.2.2.2.2.2.2.1, zv.1, zv.2.1, zv.2.2.1, zv.2.2.2.1, zv.2.2.2.2.1, zv.2.2.2.2.2.1, zv.2.2.2.2.2.2.1, zv.2.2.2.2.2.2.2.1, zv.2.2.2.2.2.2.2.2.1, zv.2.2.2.2.2.2.2.2.2, z14, z14, x1]
          have bb : (if F 11 0 6 = 0 then (0 : Int) else F 11 0 7) = (if Fm 14 0 48 ≤ 0 then 0 else Fm 14 0 50) := by
            by_cases c : F 11 0 6 = 0
            · rw [if_pos c, if_pos (by first | decide | omega)]
            · rw [if_neg c, if_neg (by first | decide | omega), g1]
          have b7 : 0 < F 11 0 6 → 1 ≤ F 11 0 7 := fun h => (hh h).1
          refine ⟨u1, ⟨rfl, t1.1, t1.2⟩, ⟨rfl, t2.1, t2.2⟩, ⟨z, hz1, hlen.symm⟩, ⟨rfl, rfl, zt, (by first | decide | omega)⟩, ⟨bb, ?_, ?_⟩, ⟨(by first | decide | omega), (by first | decide | omega), ?_, ?_⟩, ?_, ⟨v4, v5⟩, ⟨d1, d2, d3⟩, ⟨rfl, (by first | decide | omega), (by first | decide | omega), pli.1, pli.2⟩, ⟨x1 e 10, ?_, (by first | decide | omega), ?_, ?_⟩⟩
          · split <;> omega
          · split <;> omega
          · by_cases c : F 11 0 6 = 0
            · rw [if_pos c]; omega
            · rw [if_neg c]
              have := b7 (by first | decide | omega)
              omega
          · intro u
            by_cases c : F 11 0 6 = 0
            · exact hk.2.2.2.1 c
            · rw [if_neg c] at u
              have := b7 (by first | decide | omega)
              omega
          · intro u
            by_cases c : F 11 0 6 = 0
            · rw [if_pos c] at u; omega
            · exact (hh (by first | decide | omega)).2
          · rw [zn _ _ _ _ (by first | decide | omega), E2, E1]
          · intro k u s
            rw [zn _ _ _ _ (by first | decide | omega), zn _ _ _ _ (by first | decide | omega)]
            exact E4 k u (by first | decide | omega)
          · intro k k' u s t
            exact E5 k k' u s (by first | decide | omega)
        · have ne : ¬ B 4 q 5 j = e := fun y => jm (hI j m (by first | decide | omega) (by first | decide | omega) (by first | decide | omega) (by first | decide | omega) (by rw [y, hE]))
          refine EVW_f (o4 j j0 (by first | decide | omega)) (fun k => ?_) (fun k y => ?_) (fun k u t => ?_) (fun k y u t s r => ?_) (fun y => z14 8 y)
          · rw [x1, hf.1 1 _ k (fun u => ne u.2.1) (by first | decide | omega), fn 1 _ k (fun u => ne u.2)]
          · exact hf.2.1 1 _ k y (fun u => ne u.2.1)
          · rw [zn _ _ _ _ (by first | decide | omega), hf.2.2 _ _ _ _ (by first | decide | omega), mn _ _ _ _ (by first | decide | omega)]
          · rw [zn _ _ _ _ (by first | decide | omega), hf.2.2 _ _ _ _ (by first | decide | omega), mn _ _ _ _ (by first | decide | omega)]
    · refine ⟨⟨xn _ _ _ (by decide) (by first | decide | omega) (by first | decide | omega), xn _ _ _ (by decide) (by first | decide | omega) (by first | decide | omega), xn _ _ _ (by decide) (by first | decide | omega) (by first | decide | omega), xn _ _ _ (by decide) (by first | decide | omega) (by first | decide | omega), xn _ _ _ (by decide) (by first | decide | omega) (by first | decide | omega)⟩, fun k u t => b' _ _ _ _ (by decide), fun k u t => ⟨b' _ _ _ _ (by decide), b' _ _ _ _ (by decide), b' _ _ _ _ (by decide), z14 _ _, z14 _ _, z14 _ _⟩, fun k u t => ⟨z14 _ _, z14 _ _⟩, fun u => ⟨xn _ _ _ (by decide) (by first | decide | omega) (by first | decide | omega), xn _ _ _ (by decide) (by first | decide | omega) (by first | decide | omega), yn _ _ _ (by first | decide | omega)⟩, by rw [x6, hm']; omega⟩
  have noC : ∀ F' B' Bm' p, lFr e (1000 * v + m) w F2 B M2 F' B' Bm' → 0 ≤ p ∧ p ≤ N → F' 11 0 2 = 9 + 16 * Bm' 14 0 8 p → zP (f_Walker_makeEvent_273 K len 0 F' B') (f_M_event_0_277 Km (1000 * v + m) (de len) (nu len) (F 11 0 9) (F 11 0 10) i (flM G2 Bm' 9 p) Bm') (fun _ F' B' _ Fm' Bm' => WO q v w bar D F B Fm Bm F' B' Fm' Bm') := by
    intro F' B' Bm' p hf hp h2
    have fF : ∀ (c : Nat) y k, ¬ c = 1 → ¬ (c = 11 ∧ y = 0 ∧ k = 2) → F' c y k = F c y k := fun c y k n n' => by rw [hf.1 c y k (fun u => n u.1) n', fn c y k (fun u => n u.1)]
    have fm : ∀ (c : Nat) y k t, ¬ c = 13 → Bm' c y k t = Bm c y k t := fun c y k t n => by rw [hf.2.2 c y k t (fun u => n u.1), mn c y k t (fun u => n u.1)]
    rw [C273 (q := q) h11 h4 (by rw [fF 11 0 1 (by decide) (by first | decide | omega)]; exact a2), L277b (flM_b (by decide) (by decide))]
    refine zP_s ⟨frm F' B' Bm' _ _ Bm' hf (fun c y k n n' => by rw [zup3_v, if_neg (by first | decide | omega), zup3_v, if_neg (by first | decide | omega)]) (fun c y k n => by rw [flM_n (by first | decide | omega), gn c y k (by first | decide | omega)]) (fun c y k t n => rfl) (by rw [zup3_v, if_pos (by first | decide | omega), fF _ _ _ (by decide) (by first | decide | omega)]) (by rw [zup3_v, if_neg (by first | decide | omega), zup3_v, if_pos (by first | decide | omega), fF _ _ _ (by decide) (by first | decide | omega), hm']), Or.inr ⟨?_, ?_, ?_, flM_b (by decide) (by decide), ?_, ?_, ?_, ?_, ?_, ?_⟩⟩
    · rw [zup3_v, if_neg (by first | decide | omega), zup3_v, if_neg (by first | decide | omega), fF _ _ _ (by decide) (by first | decide | omega)]; exact a1
    · rw [zup3_v, if_neg (by first | decide | omega), zup3_v, if_neg (by first | decide | omega), fF _ _ _ (by decide) (by first | decide | omega)]; exact a2
    · rw [zup3_v, if_neg (by first | decide | omega), zup3_v, if_neg (by first | decide | omega), h2, flM_17, flM_18]
    · rw [flM_18, fm _ _ _ _ (by decide)]; exact pl p hp.1 hp.2
    · rw [flM_n (by decide), gn _ _ _ (by first | decide | omega)]; exact b1
    · rw [flM_n (by decide), gn _ _ _ (by first | decide | omega)]; exact b2
    · rw [zup3_v, if_neg (by first | decide | omega), zup3_v, if_pos (by first | decide | omega), fF _ _ _ (by decide) (by first | decide | omega), hm']; omega
    · rw [flM_n (by decide), gn _ _ _ (by first | decide | omega), ← o1]; omega
    · rw [zup3_v, if_neg (by first | decide | omega), zup3_v, if_neg (by first | decide | omega), fF _ _ _ (by decide) (by first | decide | omega)]; omega
  have main := P_ploop (K := K) (Km := Km) (x := x) (s0 := s0) (cnt := B 3 0 6 x) (p0 := B 3 0 3 x) (N := N) (nn := (F 11 0 18).toNat) (by first | decide | omega) (by first | decide | omega) h11 h3 he (by first | decide | omega) hx (by rw [gn _ _ _ (by first | decide | omega)]; exact a4) (by rw [gn _ _ _ (by first | decide | omega)]; exact b2) w0 (by rw [gn _ _ _ (by first | decide | omega), ← n1]; omega) (by first | decide | omega) (by first | decide | omega) (by first | decide | omega) kd4 N1 okC noC (fun t u s => by rw [mn _ _ _ _ (by first | decide | omega)]; exact pl t u s) (B 3 0 6 x).toNat K.1 Km (k := 0) (by first | decide | omega) (Int.le_refl _) (by first | decide | omega) (by first | decide | omega) (by first | decide | omega) E0 PH lFr_r
  rw [Int.add_zero] at main
  have e249 : f_M_event_0_249 Km Km s0 (s0 + cnt) (1000 * v + m) (de len) (nu len) (F 11 0 9) (F 11 0 10) i G2 M2 = f_M_event_0_249 Km Km s0 (s0 + B 3 0 6 x) (1000 * v + m) (de len) (nu len) (F 11 0 9) (F 11 0 10) i G2 M2 := by
    rcases kd2 with y | ⟨y, y'⟩
    · rw [y]
    · obtain ⟨k, hk⟩ : ∃ k, Km = k + 1 := ⟨Km - 1, (by first | decide | omega)⟩
      have st : ∀ c, c ≤ 0 → -10 ≤ c → f_M_event_0_249 Km Km s0 (s0 + c) (1000 * v + m) (de len) (nu len) (F 11 0 9) (F 11 0 10) i G2 M2 = f_M_event_0_277 Km (1000 * v + m) (de len) (nu len) (F 11 0 9) (F 11 0 10) i G2 M2 := fun c c0 c1 => by
        rw [show f_M_event_0_249 Km Km = f_M_event_0_249 Km (k + 1) by rw [← hk], f_M_event_0_249, if_pos (by unfold r32; omega), if_pos (by unfold r32; omega), if_pos (by first | decide | omega)]
      rw [y, y', st (-1) (by decide) (by decide), st 0 (by decide) (by decide)]
  rw [e249]
  exact main
end
end
section
section
/-! ===== two events exchanged in the reference ===== -/
def sg2 (a b y : Int) : Int := if y = a then b else if y = b then a else y
def sg6 (a b t y : Int) : Int := if 6 * a ≤ y ∧ y < 6 * a + t then y - 6 * a + 6 * b else if 6 * b ≤ y ∧ y < 6 * b + t then y - 6 * b + 6 * a else y
def swR (w a b : Int) (n : Nat) (B B' : zB) : Prop := ∀ c i k y, B' c i k y = if c = 13 ∧ i = w ∧ 16 ≤ k ∧ k ≤ n then B 13 w k (sg2 a b y) else B c i k y
theorem swp_v {w a b y y' : Int} {k k' c : Nat} {B : zB} : (zup4 (zup4 B 13 w k a (B 13 w k b)) 13 w k b (B 13 w k a)) c y' k' y = if c = 13 ∧ y' = w ∧ k' = k then B 13 w k (sg2 a b y) else B c y' k' y := by
  rw [zup4_v, zup4_v]
  unfold sg2
  by_cases h : c = 13 ∧ y' = w ∧ k' = k
  · obtain ⟨rfl, rfl, rfl⟩ := h
    rw [if_pos (⟨rfl, rfl, rfl⟩ : (13 : Nat) = 13 ∧ y' = y' ∧ k' = k')]
    by_cases hb : y = b
    · rw [if_pos ⟨rfl, rfl, rfl, hb⟩]
      by_cases ha : y = a
      · rw [if_pos ha, ← ha, hb]
      · rw [if_neg ha, if_pos hb]
    · rw [if_neg (fun z => hb z.2.2.2)]
      by_cases ha : y = a
      · rw [if_pos ⟨rfl, rfl, rfl, ha⟩, if_pos ha]
      · rw [if_neg (fun z => ha z.2.2.2), if_neg ha, if_neg hb]
  · rw [if_neg (fun z => h ⟨z.1, z.2.1, z.2.2.1⟩), if_neg (fun z => h ⟨z.1, z.2.1, z.2.2.1⟩), if_neg h]
theorem L_sw0 {K k : Nat} {w a b : Int} {F : zF} {B : zB} (w0 : 0 ≤ w ∧ w < 3) (h : zk 13 k = (3, 0)) {L : Nat} (hL : lnM 13 0 k = L) (hL2 : L ≤ 30000) (a0 : 0 ≤ a ∧ a < L) (b0 : 0 ≤ b ∧ b < L) : f_M_swap_0 K 13 w k a b F B = some (0, F, zup4 (zup4 B 13 w k a (B 13 w k b)) 13 w k b (B 13 w k a)) := by
  have e : lnM 13 w k = L := hL
  unfold f_M_swap_0
  rw [if_pos (by rw [show nM 13 = 3 by decide]; exact w0), e, if_pos a0, if_pos h, if_pos (by first | decide | omega), if_pos b0]
theorem L_sw1 {K k : Nat} {w a b : Int} {F : zF} {B : zB} (w0 : 0 ≤ w ∧ w < 3) (h : zk 13 k = (3, 1)) {L : Nat} (hL : lnM 13 0 k = L) (hL2 : L ≤ 30000) (a0 : 0 ≤ a ∧ a < L) (b0 : 0 ≤ b ∧ b < L) : f_M_swap_1 K 13 w k a b F B = some (0, F, zup4 (zup4 B 13 w k a (B 13 w k b)) 13 w k b (B 13 w k a)) := by
  have e : lnM 13 w k = L := hL
  unfold f_M_swap_1
  rw [if_pos (by rw [show nM 13 = 3 by decide]; exact w0), e, if_pos a0, if_pos h, if_pos (by first | decide | omega), if_pos b0]
theorem swR_0 {w a b : Int} {B : zB} : swR w a b 15 B B := fun c i k y => by rw [if_neg (by first | decide | omega)]
theorem swR_s {w a b : Int} {n : Nat} {B B1 : zB} (h15 : 15 ≤ n) (h : swR w a b n B B1) : swR w a b (n + 1) B (zup4 (zup4 B1 13 w (n + 1) a (B1 13 w (n + 1) b)) 13 w (n + 1) b (B1 13 w (n + 1) a)) := fun c i k y => by
  rw [swp_v]
  by_cases e : c = 13 ∧ i = w ∧ k = n + 1
  · obtain ⟨rfl, rfl, rfl⟩ := e
    rw [if_pos ⟨rfl, rfl, rfl⟩, if_pos ⟨rfl, rfl, (by first | decide | omega), (by first | decide | omega)⟩, h, if_neg (by first | decide | omega)]
  · rw [if_neg e, h]
    by_cases g : c = 13 ∧ i = w ∧ 16 ≤ k ∧ k ≤ n
    · rw [if_pos g, if_pos (by first | decide | omega)]
    · rw [if_neg g, if_neg (by first | decide | omega)]
def sw6 (w a b t : Int) (B B' : zB) : Prop := ∀ c i k y, B' c i k y = if c = 13 ∧ i = w ∧ 16 ≤ k ∧ k ≤ 26 then B 13 w k (sg2 a b y) else if c = 13 ∧ i = w ∧ 28 ≤ k ∧ k ≤ 29 then B 13 w k (sg6 a b t y) else B c i k y
theorem sw6_s {w a b t : Int} {B B1 : zB} (ab : a < b) (t0 : 0 ≤ t) (t6 : t < 6) (h : sw6 w a b t B B1) {B2 B3 : zB} (h2 : B2 = zup4 (zup4 B1 13 w 28 (6 * a + t) (B1 13 w 28 (6 * b + t))) 13 w 28 (6 * b + t) (B1 13 w 28 (6 * a + t))) (h3 : B3 = zup4 (zup4 B2 13 w 29 (6 * a + t) (B2 13 w 29 (6 * b + t))) 13 w 29 (6 * b + t) (B2 13 w 29 (6 * a + t))) : sw6 w a b (t + 1) B B3 := by
  have key : ∀ y, sg6 a b t (sg2 (6 * a + t) (6 * b + t) y) = sg6 a b (t + 1) y := fun y => by
    unfold sg2 sg6
    by_cases e1 : y = 6 * a + t
    · rw [if_pos e1, if_neg (by first | decide | omega), if_neg (by first | decide | omega), if_pos (by first | decide | omega)]
      omega
    rw [if_neg e1]
    by_cases e2 : y = 6 * b + t
    · rw [if_pos e2, if_neg (by first | decide | omega), if_neg (by first | decide | omega), if_neg (by first | decide | omega), if_pos (by first | decide | omega)]
      omega
    rw [if_neg e2]
    by_cases e3 : 6 * a ≤ y ∧ y < 6 * a + t
    · rw [if_pos e3, if_pos (by first | decide | omega)]
    rw [if_neg e3, if_neg (show ¬ (6 * a ≤ y ∧ y < 6 * a + (t + 1)) by omega)]
    by_cases e4 : 6 * b ≤ y ∧ y < 6 * b + t
    · rw [if_pos e4, if_pos (by first | decide | omega)]
    · rw [if_neg e4, if_neg (by first | decide | omega)]
  intro c i k y
  rw [h3, swp_v, h2]
  by_cases e1 : c = 13 ∧ i = w ∧ k = 29
  · obtain ⟨rfl, rfl, rfl⟩ := e1
    rw [if_pos ⟨rfl, rfl, rfl⟩, swp_v, if_neg (by first | decide | omega), h, if_neg (by first | decide | omega), if_pos ⟨rfl, rfl, by decide, by decide⟩, if_neg (by first | decide | omega), if_pos ⟨rfl, rfl, by decide, by decide⟩, key]
  rw [if_neg e1, swp_v]
  by_cases e2 : c = 13 ∧ i = w ∧ k = 28
  · obtain ⟨rfl, rfl, rfl⟩ := e2
    rw [if_pos ⟨rfl, rfl, rfl⟩, h, if_neg (by first | decide | omega), if_pos ⟨rfl, rfl, by decide, by decide⟩, if_neg (by first | decide | omega), if_pos ⟨rfl, rfl, by decide, by decide⟩, key]
  rw [if_neg e2, h]
  by_cases e3 : c = 13 ∧ i = w ∧ 16 ≤ k ∧ k ≤ 26
  · rw [if_pos e3, if_pos e3]
  · rw [if_neg e3, if_neg e3, if_neg (by first | decide | omega), if_neg (by first | decide | omega)]
theorem L_ex6 {K : Nat} {w a b : Int} {F : zF} {B : zB} (hw : F 14 0 6 = w) (w0 : 0 ≤ w ∧ w < 3) (a0 : 0 ≤ a) (ab : a < b) (b1 : b < 4000) : ∀ (j n : Nat) {t : Int} {B1 : zB}, 0 ≤ t → t ≤ 6 → (6 - t).toNat = j → j < n → sw6 w a b t B B1 → ∃ B', f_M_exchange_134 K n t a b F B1 = some (0, F, B') ∧ sw6 w a b 6 B B' := by
  intro j
  induction j with
  | zero =>
    intro n t B1 h0 h1 hj hn h
    obtain ⟨n, rfl⟩ : ∃ m, n = m + 1 := ⟨n - 1, (by first | decide | omega)⟩
    have ht : t = 6 := by omega
    subst ht
    exact ⟨B1, by rw [f_M_exchange_134, if_pos (by decide), if_pos (by decide)], h⟩
  | succ j ih =>
    intro n t B1 h0 h1 hj hn h
    obtain ⟨n, rfl⟩ : ∃ m, n = m + 1 := ⟨n - 1, (by first | decide | omega)⟩
    obtain ⟨B', e, g⟩ := ih n (t := t + 1) (by first | decide | omega) (by first | decide | omega) (by first | decide | omega) (by first | decide | omega) (sw6_s ab h0 (by first | decide | omega) h rfl rfl)
    exact ⟨B', by rw [f_M_exchange_134, hw, if_pos (by unfold r32; omega), if_neg (by first | decide | omega), if_pos w0, L_sw0 (L := 24000) w0 (by decide) rfl (by decide) (by first | decide | omega) (by first | decide | omega), zb_s, hw, if_pos w0, L_sw0 (L := 24000) w0 (by decide) rfl (by decide) (by first | decide | omega) (by first | decide | omega), zb_s, e], g⟩
theorem L_exch {K : Nat} {w a b : Int} {F : zF} {B : zB} (hK : 10 < K) (hw : F 14 0 6 = w) (w0 : 0 ≤ w ∧ w < 3) (a0 : 0 ≤ a) (ab : a < b) (b1 : b < 4000) : ∃ B', f_M_exchange K a b F B = some (0, F, B') ∧ sw6 w a b 6 B B' := by
  have s0 : ∀ (k : Nat) (B : zB), zk 13 k = (3, 0) → lnM 13 0 k = 4000 → f_M_swap_0 K 13 w k a b F B = some (0, F, zup4 (zup4 B 13 w k a (B 13 w k b)) 13 w k b (B 13 w k a)) := fun k B h h' => L_sw0 w0 h h' (by decide) (by first | decide | omega) (by first | decide | omega)
  have s1 : ∀ (k : Nat) (B : zB), zk 13 k = (3, 1) → lnM 13 0 k = 4000 → f_M_swap_1 K 13 w k a b F B = some (0, F, zup4 (zup4 B 13 w k a (B 13 w k b)) 13 w k b (B 13 w k a)) := fun k B h h' => L_sw1 w0 h h' (by decide) (by first | decide | omega) (by first | decide | omega)
  unfold f_M_exchange
  rw [hw, if_pos w0, s1 16 _ (by decide) rfl, zb_s, hw, if_pos w0, s1 17 _ (by decide) rfl, zb_s, hw, if_pos w0]
  have r16 := swR_s (n := 15) (by decide) (swR_0 (w := w) (a := a) (b := b) (B := B))
  have r17 := swR_s (by decide) r16
  generalize zup4 (zup4 (zup4 (zup4 B 13 w 16 a (B 13 w 16 b)) 13 w 16 b (B 13 w 16 a)) 13 w 17 a ((zup4 (zup4 B 13 w 16 a (B 13 w 16 b)) 13 w 16 b (B 13 w 16 a)) 13 w 17 b)) 13 w 17 b ((zup4 (zup4 B 13 w 16 a (B 13 w 16 b)) 13 w 16 b (B 13 w 16 a)) 13 w 17 a) = B1 at r17 ⊢
  rw [s0 18 _ (by decide) rfl, zb_s, hw, if_pos w0]
  have r18 := swR_s (by decide) r17
  generalize zup4 (zup4 B1 13 w 18 a (B1 13 w 18 b)) 13 w 18 b (B1 13 w 18 a) = B2 at r18 ⊢
  rw [s0 19 _ (by decide) rfl, zb_s, hw, if_pos w0]
  have r19 := swR_s (by decide) r18
  generalize zup4 (zup4 B2 13 w 19 a (B2 13 w 19 b)) 13 w 19 b (B2 13 w 19 a) = B3 at r19 ⊢
  rw [s0 20 _ (by decide) rfl, zb_s, hw, if_pos w0]
  have r20 := swR_s (by decide) r19
  generalize zup4 (zup4 B3 13 w 20 a (B3 13 w 20 b)) 13 w 20 b (B3 13 w 20 a) = B4 at r20 ⊢
  rw [s0 21 _ (by decide) rfl, zb_s, hw, if_pos w0]
  have r21 := swR_s (by decide) r20
  generalize zup4 (zup4 B4 13 w 21 a (B4 13 w 21 b)) 13 w 21 b (B4 13 w 21 a) = B5 at r21 ⊢
  rw [s0 22 _ (by decide) rfl, zb_s, hw, if_pos w0]
  have r22 := swR_s (by decide) r21
  generalize zup4 (zup4 B5 13 w 22 a (B5 13 w 22 b)) 13 w 22 b (B5 13 w 22 a) = B6 at r22 ⊢
  rw [s0 23 _ (by decide) rfl, zb_s, hw, if_pos w0]
  have r23 := swR_s (by decide) r22
  generalize zup4 (zup4 B6 13 w 23 a (B6 13 w 23 b)) 13 w 23 b (B6 13 w 23 a) = B7 at r23 ⊢
  rw [s0 24 _ (by decide) rfl, zb_s, hw, if_pos w0]
  have r24 := swR_s (by decide) r23
  generalize zup4 (zup4 B7 13 w 24 a (B7 13 w 24 b)) 13 w 24 b (B7 13 w 24 a) = B8 at r24 ⊢
  rw [s0 25 _ (by decide) rfl, zb_s, hw, if_pos w0]
  have r25 := swR_s (by decide) r24
  generalize zup4 (zup4 B8 13 w 25 a (B8 13 w 25 b)) 13 w 25 b (B8 13 w 25 a) = B9 at r25 ⊢
  rw [s0 26 _ (by decide) rfl, zb_s]
  have r26 := swR_s (by decide) r25
  generalize zup4 (zup4 B9 13 w 26 a (B9 13 w 26 b)) 13 w 26 b (B9 13 w 26 a) = B10 at r26 ⊢
  refine L_ex6 hw w0 a0 ab b1 6 K (t := 0) (by decide) (by decide) (by decide) (by first | decide | omega) ?_
  intro c i k y
  rw [r26]
  by_cases e : c = 13 ∧ i = w ∧ 16 ≤ k ∧ k ≤ 26
  · rw [if_pos e, if_pos e]
  · rw [if_neg e, if_neg e]
    by_cases e2 : c = 13 ∧ i = w ∧ 28 ≤ k ∧ k ≤ 29
    · rw [if_pos e2]
      unfold sg6
      rw [if_neg (by first | decide | omega), if_neg (by first | decide | omega), e2.1, e2.2.1]
    · rw [if_neg e2]
end
end
section
section
/-! ===== what was made is turned round: the order ===== -/
def rv (lo hi j : Int) : Int := if lo ≤ j ∧ j ≤ hi then lo + hi - j else j
theorem rv_b {lo hi j n : Int} (h0 : 0 ≤ lo) (h1 : hi < n) (j0 : 0 ≤ j) (j1 : j < n) : 0 ≤ rv lo hi j ∧ rv lo hi j < n := by
  unfold rv
  split <;> omega
theorem rv_i {lo hi j : Int} : rv lo hi (rv lo hi j) = j := by
  unfold rv
  by_cases h : lo ≤ j ∧ j ≤ hi
  · rw [if_pos h, if_pos (by first | decide | omega)]; omega
  · rw [if_neg h, if_neg h]
theorem rv_s {lo hi j : Int} (h : lo < hi) : sg2 lo hi (rv (lo + 1) (hi - 1) j) = rv lo hi j := by
  unfold sg2 rv
  by_cases a : j = lo
  · rw [if_neg (show ¬ (lo + 1 ≤ j ∧ j ≤ hi - 1) by omega), if_pos a, if_pos (by first | decide | omega)]; omega
  by_cases b : j = hi
  · rw [if_neg (show ¬ (lo + 1 ≤ j ∧ j ≤ hi - 1) by omega), if_neg a, if_pos b, if_pos (by first | decide | omega)]; omega
  by_cases c : lo + 1 ≤ j ∧ j ≤ hi - 1
  · rw [if_pos c, if_neg (by first | decide | omega), if_neg (by first | decide | omega), if_pos (by first | decide | omega)]; omega
  · rw [if_neg c, if_neg a, if_neg b, if_neg (by first | decide | omega)]
theorem C_turn9 {K : zK} {F : zF} {q fr : Int} (h4 : 0 ≤ q ∧ q < K.2 4) : ∀ (d n : Nat) {lo hi : Int} {B : zB}, (hi + 1 - lo).toNat ≤ d → d < n → 0 ≤ lo → lo ≤ 200 → -1 ≤ hi → hi < 200 → (∀ t, 0 ≤ t → t < 200 → 0 ≤ B 4 q 5 t ∧ B 4 q 5 t < K.2 1) → ∃ B', f_Part_turn_9 K n hi lo q fr F B = f_Part_turn_53 K K.1 fr q F B' ∧ (∀ j, B' 4 q 5 j = B 4 q 5 (rv lo hi j)) ∧ ∀ c i k y, ¬ (c = 4 ∧ i = q ∧ k = 5) → B' c i k y = B c i k y := by
  intro d
  induction d with
  | zero =>
    intro n lo hi B hd hn l0 l1 h0 h1 hV
    obtain ⟨n, rfl⟩ : ∃ m, n = m + 1 := ⟨n - 1, (by first | decide | omega)⟩
    refine ⟨B, ?_, fun j => ?_, fun _ _ _ _ _ => rfl⟩
    · rw [f_Part_turn_9, if_pos (by unfold r32; omega), if_pos (by unfold r32; omega), if_pos (by first | decide | omega)]
    · unfold rv
      rw [if_neg (by first | decide | omega)]
  | succ d ih =>
    intro n lo hi B hd hn l0 l1 h0 h1 hV
    obtain ⟨n, rfl⟩ : ∃ m, n = m + 1 := ⟨n - 1, (by first | decide | omega)⟩
    by_cases c : hi ≤ lo
    · refine ⟨B, ?_, fun j => ?_, fun _ _ _ _ _ => rfl⟩
      · rw [f_Part_turn_9, if_pos (by unfold r32; omega), if_pos (by unfold r32; omega), if_pos c]
      · unfold rv
        by_cases e : lo ≤ j ∧ j ≤ hi
        · rw [if_pos e, show lo + hi - j = j by omega]
        · rw [if_neg e]
    · have sv : ∀ t, (zup4 (zup4 B 4 q 5 lo (B 4 q 5 hi)) 4 q 5 hi (B 4 q 5 lo)) 4 q 5 t = B 4 q 5 (sg2 lo hi t) := fun t => by
        rw [zup4_v, zup4_v]
        unfold sg2
        by_cases e1 : t = hi
        · rw [if_pos (by first | decide | omega), if_neg (by first | decide | omega), if_pos e1]
        · rw [if_neg (by first | decide | omega)]
          by_cases e2 : t = lo
          · rw [if_pos (by first | decide | omega), if_pos e2]
          · rw [if_neg (by first | decide | omega), if_neg e2, if_neg e1]
      obtain ⟨B', e, g1, g2⟩ := ih n (lo := lo + 1) (hi := hi - 1) (B := zup4 (zup4 B 4 q 5 lo (B 4 q 5 hi)) 4 q 5 hi (B 4 q 5 lo)) (by first | decide | omega) (by first | decide | omega) (by first | decide | omega) (by first | decide | omega) (by first | decide | omega) (by first | decide | omega) (fun t u v => by
        rw [sv]
        refine hV _ ?_ ?_ <;> (unfold sg2; split <;> (try split) <;> omega))
      refine ⟨B', ?_, fun j => ?_, fun c i k y h => ?_⟩
      · rw [f_Part_turn_9, if_pos (by unfold r32; omega), if_pos (by unfold r32; omega), if_neg c, if_pos h4, if_pos (by first | decide | omega), if_pos (by first | decide | omega), if_pos (hV hi (by first | decide | omega) (by first | decide | omega)), if_pos (hV lo (by first | decide | omega) (by first | decide | omega)), e]
      · rw [g1, sv, rv_s (by first | decide | omega)]
      · rw [g2 c i k y h, zup4_v, if_neg (by first | decide | omega), zup4_v, if_neg (by first | decide | omega)]
/-- the reference's rows, turned round between lo and hi -/
def rvB (v w lo hi : Int) (B B' : zB) : Prop := (∀ k j, 16 ≤ k → k ≤ 26 → 0 ≤ j → j < 1000 → B' 13 w k (1000 * v + j) = B 13 w k (1000 * v + rv lo hi j)) ∧ (∀ k j t, 28 ≤ k → k ≤ 29 → 0 ≤ j → j < 1000 → 0 ≤ t → t < 6 → B' 13 w k (6 * (1000 * v + j) + t) = B 13 w k (6 * (1000 * v + rv lo hi j) + t)) ∧ ∀ c i k y, ¬ inV v w c i k y → B' c i k y = B c i k y
theorem rvB_0 {v w lo hi : Int} {B : zB} (h : hi ≤ lo) : rvB v w lo hi B B := by
  have e : ∀ j, rv lo hi j = j := fun j => by
    unfold rv
    by_cases e : lo ≤ j ∧ j ≤ hi
    · rw [if_pos e]; omega
    · rw [if_neg e]
  exact ⟨fun k j _ _ _ _ => by rw [e], fun k j t _ _ _ _ _ _ => by rw [e], fun _ _ _ _ _ => rfl⟩
theorem rvB_s {v w lo hi : Int} {B B1 B2 : zB} (v0 : 0 ≤ v) (l0 : 0 ≤ lo) (h1 : hi < 1000) (h : lo < hi) (s : sw6 w (1000 * v + lo) (1000 * v + hi) 6 B B1) (r : rvB v w (lo + 1) (hi - 1) B1 B2) : rvB v w lo hi B B2 := by
  obtain ⟨r1, r2, r3⟩ := r
  refine ⟨fun k j a b j0 j1 => ?_, fun k j t a b j0 j1 t0 t1 => ?_, fun c i k y n => ?_⟩
  · rw [r1 k j a b j0 j1, s, if_pos ⟨rfl, rfl, a, b⟩, ← rv_s h]
    unfold sg2
    generalize rv (lo + 1) (hi - 1) j = u
    by_cases e1 : u = lo
    · rw [if_pos (by first | decide | omega), if_pos e1]
    rw [if_neg (by first | decide | omega), if_neg e1]
    by_cases e2 : u = hi
    · rw [if_pos (by first | decide | omega), if_pos e2]
    · rw [if_neg (by first | decide | omega), if_neg e2]
  · rw [r2 k j t a b j0 j1 t0 t1, s, if_neg (by first | decide | omega), if_pos ⟨rfl, rfl, a, b⟩, ← rv_s h]
    unfold sg2 sg6
    generalize rv (lo + 1) (hi - 1) j = u
    by_cases e1 : u = lo
    · rw [if_pos (by first | decide | omega), if_pos e1]
      congr 1
      omega
    rw [if_neg (by first | decide | omega), if_neg e1]
    by_cases e2 : u = hi
    · rw [if_pos (by first | decide | omega), if_pos e2]
      congr 1
      omega
    · rw [if_neg (by first | decide | omega), if_neg e2]
  · rw [r3 c i k y n, s]
    unfold inV at n
    by_cases e1 : c = 13 ∧ i = w ∧ 16 ≤ k ∧ k ≤ 26
    · rw [if_pos e1, e1.1, e1.2.1]
      unfold sg2
      rw [if_neg (by first | decide | omega), if_neg (by first | decide | omega)]
    rw [if_neg e1]
    by_cases e2 : c = 13 ∧ i = w ∧ 28 ≤ k ∧ k ≤ 29
    · rw [if_pos e2, e2.1, e2.2.1]
      unfold sg6
      rw [if_neg (by first | decide | omega), if_neg (by first | decide | omega)]
    · rw [if_neg e2]
theorem L_gb50 {o : oT_W} {K : Nat} {F : zF} {v w fr : Int} (hK : 10 < K) (hv : F 14 0 35 = v) (v0 : 0 ≤ v ∧ v < 4) (hw : F 14 0 6 = w) (w0 : 0 ≤ w ∧ w < 3) : ∀ (d n : Nat) {lo hi : Int} {B : zB}, (hi + 1 - lo).toNat ≤ d → d < n → 0 ≤ lo → lo ≤ 200 → -1 ≤ hi → hi < 200 → ∃ B', f_M_goBack_50 o K n hi lo fr F B = f_M_goBack_92 o K K fr F B' ∧ rvB v w lo hi B B' := by
  intro d
  induction d with
  | zero =>
    intro n lo hi B hd hn l0 l1 h0 h1
    obtain ⟨n, rfl⟩ : ∃ m, n = m + 1 := ⟨n - 1, (by first | decide | omega)⟩
    exact ⟨B, by rw [f_M_goBack_50, if_pos (by unfold r32; omega), if_pos (by unfold r32; omega), if_pos (by first | decide | omega)], rvB_0 (by first | decide | omega)⟩
  | succ d ih =>
    intro n lo hi B hd hn l0 l1 h0 h1
    obtain ⟨n, rfl⟩ : ∃ m, n = m + 1 := ⟨n - 1, (by first | decide | omega)⟩
    by_cases c : hi ≤ lo
    · exact ⟨B, by rw [f_M_goBack_50, if_pos (by unfold r32; omega), if_pos (by unfold r32; omega), if_pos c], rvB_0 c⟩
    · obtain ⟨B1, e1, s⟩ := L_exch (K := K) (w := w) (a := 1000 * v + lo) (b := 1000 * v + hi) (F := F) (B := B) hK hw w0 (by first | decide | omega) (by first | decide | omega) (by first | decide | omega)
      obtain ⟨B', e, g⟩ := ih n (lo := lo + 1) (hi := hi - 1) (B := B1) (by first | decide | omega) (by first | decide | omega) (by first | decide | omega) (by first | decide | omega) (by first | decide | omega) (by first | decide | omega)
      exact ⟨B', by rw [f_M_goBack_50, hv, if_pos (by unfold r32; omega), if_pos (by unfold r32; omega), if_neg c, e1, zb_s, e], rvB_s v0.1 l0 (by first | decide | omega) (by first | decide | omega) s g⟩
end
end
section
section
/-! ===== what was made is turned round: the marks ===== -/
def cmk (a t : Int) : Int := zor (zor (zor (zand a (-8)) (if zand a 2 = 0 then 0 else 4)) (if zand a 4 = 0 then 0 else 2)) t
def rmk (a t : Int) : Int := zor (zor (zor (zand a (-8)) t) (if zand a 4 ≤ 0 then 0 else 2)) (if zand a 2 ≤ 0 then 0 else 4)
theorem mk_f : ∀ a : Fin 128, ∀ t : Fin 2, cmk (a.val : Int) (t.val : Int) = rmk (a.val : Int) (t.val : Int) ∧ 0 ≤ cmk (a.val : Int) (t.val : Int) ∧ cmk (a.val : Int) (t.val : Int) < 128 := by decide +kernel
theorem mk_e {a t : Int} (a0 : 0 ≤ a) (a1 : a < 128) (t0 : t = 0 ∨ t = 1) : cmk a t = rmk a t ∧ 0 ≤ cmk a t ∧ cmk a t < 128 := by
  have h := mk_f ⟨a.toNat, (by first | decide | omega)⟩ ⟨t.toNat, (by first | decide | omega)⟩
  rw [show (((⟨a.toNat, (by first | decide | omega)⟩ : Fin 128).val : Nat) : Int) = a by show ((a.toNat : Nat) : Int) = a; omega, show (((⟨t.toNat, (by first | decide | omega)⟩ : Fin 2).val : Nat) : Int) = t by show ((t.toNat : Nat) : Int) = t; omega] at h
  exact h
theorem tie_f : ∀ a : Fin 128, zand (a.val : Int) 1 = 0 ∨ zand (a.val : Int) 1 = 1 := by decide +kernel
theorem tie_e {a : Int} (a0 : 0 ≤ a) (a1 : a < 128) : zand a 1 = 0 ∨ zand a 1 = 1 := by
  have h := tie_f ⟨a.toNat, (by first | decide | omega)⟩
  rw [show (((⟨a.toNat, (by first | decide | omega)⟩ : Fin 128).val : Nat) : Int) = a by show ((a.toNat : Nat) : Int) = a; omega] at h
  exact h
theorem C_has {K : zK} {e m : Int} {F : zF} {B : zB} (he : 0 ≤ e ∧ e < K.2 1) : f_Event_has K e m F B = some (if zand (F 1 e 7) m = 0 then 0 else 1, F, B) := by
  unfold f_Event_has f_Event_has_14
  rw [if_pos he, if_pos (zand_r32 _ _)]
  by_cases c : zand (F 1 e 7) m = 0
  · rw [if_pos c, if_pos c, if_pos (by decide)]
  · rw [if_neg c, if_neg c, if_pos (by decide)]
def tieC (q m : Int) (F : zF) (B : zB) (j : Int) : Int := if j + 1 < m then (if zand (F 1 (B 4 q 5 (j + 1)) 7) 1 = 0 then 0 else 1) else 0
theorem C_53s {K : zK} {q m l : Int} {F : zF} {B : zB} {n : Nat} (h4 : 0 ≤ q ∧ q < K.2 4) (hm : F 4 q 6 = m) (m2 : m ≤ 200) (l0 : 0 ≤ l) (lm : l < m) (hV : ∀ t, 0 ≤ t → t < 200 → 0 ≤ B 4 q 5 t ∧ B 4 q 5 t < K.2 1) : f_Part_turn_53 K (n + 1) l q F B = f_Part_turn_53 K n (l + 1) q (zup3 F 1 (B 4 q 5 l) 7 (cmk (F 1 (B 4 q 5 l) 7) (tieC q m F B l))) B := by
  have v1 := hV l l0 (by first | decide | omega)
  have e149 : ∀ (rec : Int → Int → zF → zB → zO) a b, f_Part_turn_149 rec K (B 4 q 5 l) l q a b F B = rec (l + 1) q (zup3 F 1 (B 4 q 5 l) 7 (zor a b)) B := fun rec a b => by
    unfold f_Part_turn_149
    rw [if_pos v1]
  have e114 : ∀ (rec : Int → Int → zF → zB → zO) a b, f_Part_turn_114 rec K (B 4 q 5 l) l q a b F B = rec (l + 1) q (zup3 F 1 (B 4 q 5 l) 7 (zor (zor a b) (tieC q m F B l))) B := fun rec a b => by
    unfold f_Part_turn_114 f_Part_turn_148 tieC
    rw [if_pos h4, hm, if_pos (by unfold r32; omega), if_pos (by unfold r32; omega), e149]
    by_cases c : m ≤ l + 1
    · rw [if_pos c, if_neg (by first | decide | omega)]
    · have v2 := hV (l + 1) (by first | decide | omega) (by first | decide | omega)
      rw [if_neg c, if_pos (show 0 ≤ l + 1 ∧ l + 1 < 200 by omega), if_pos v2, C_has v2, zb_s, e149, if_pos (show l + 1 < m by omega)]
      by_cases z : zand (F 1 (B 4 q 5 (l + 1)) 7) 1 = 0
      · rw [if_pos z, if_pos (by decide), if_pos rfl]
      · rw [if_neg z, if_pos (by decide), if_neg (by decide), e149]
  have e95 : ∀ (rec : Int → Int → zF → zB → zO) a b, f_Part_turn_95 rec K (B 4 q 5 l) l q a b F B = rec (l + 1) q (zup3 F 1 (B 4 q 5 l) 7 (zor (zor (zor a b) (if zand (F 1 (B 4 q 5 l) 7) 4 = 0 then 0 else 2)) (tieC q m F B l))) B := fun rec a b => by
    unfold f_Part_turn_95
    rw [if_pos v1, C_has v1, zb_s, e114, e114]
    by_cases z : zand (F 1 (B 4 q 5 l) 7) 4 = 0
    · rw [if_pos z, if_pos z, if_pos (by decide), if_pos rfl]
    · rw [if_neg z, if_neg z, if_pos (by decide), if_neg (by decide)]
  rw [f_Part_turn_53, if_pos h4, hm, if_pos (by unfold r32; omega), if_pos (by unfold r32; omega), if_neg (by first | decide | omega), if_pos (by first | decide | omega), if_pos v1, C_has v1, zb_s, e95, e95]
  unfold cmk
  by_cases z : zand (F 1 (B 4 q 5 l) 7) 2 = 0
  · rw [if_pos z, if_pos z, if_pos (by decide), if_pos rfl]
  · rw [if_neg z, if_neg z, if_pos (by decide), if_neg (by decide)]
theorem C_53 {K : zK} {q m : Int} {B : zB} (h4 : 0 ≤ q ∧ q < K.2 4) (m2 : m ≤ 200) (hV : ∀ t, 0 ≤ t → t < 200 → 0 ≤ B 4 q 5 t ∧ B 4 q 5 t < K.2 1) (hI : inJ q B) : ∀ (d n : Nat) {l : Int} {F : zF}, (m - l).toNat = d → d < n → 0 ≤ l → l ≤ 200 → -1 ≤ m → F 4 q 6 = m → ∃ F', f_Part_turn_53 K n l q F B = some (0, F', B) ∧ (∀ j, l ≤ j → j < m → F' 1 (B 4 q 5 j) 7 = cmk (F 1 (B 4 q 5 j) 7) (tieC q m F B j)) ∧ ∀ c y k, ¬ (c = 1 ∧ k = 7 ∧ ∃ j, l ≤ j ∧ j < m ∧ B 4 q 5 j = y) → F' c y k = F c y k := by
  intro d
  induction d with
  | zero =>
    intro n l F hd hn l0 l2 m1 hm
    obtain ⟨n, rfl⟩ : ∃ m, n = m + 1 := ⟨n - 1, (by first | decide | omega)⟩
    exact ⟨F, by rw [f_Part_turn_53, if_pos h4, hm, if_pos (by unfold r32; omega), if_pos (by unfold r32; omega), if_pos (by first | decide | omega)], fun j a b => (by first | decide | omega), fun _ _ _ _ => rfl⟩
  | succ d ih =>
    intro n l F hd hn l0 l2 m1 hm
    obtain ⟨n, rfl⟩ : ∃ m, n = m + 1 := ⟨n - 1, (by first | decide | omega)⟩
    obtain ⟨F', e, g1, g2⟩ := ih n (l := l + 1) (F := zup3 F 1 (B 4 q 5 l) 7 (cmk (F 1 (B 4 q 5 l) 7) (tieC q m F B l))) (by first | decide | omega) (by first | decide | omega) (by first | decide | omega) (by first | decide | omega) m1 (by rw [zup3_v, if_neg (by first | decide | omega)]; exact hm)
    have ne : ∀ j, l < j → j < m → ¬ B 4 q 5 j = B 4 q 5 l := fun j a b y => by
      have := hI j l (by first | decide | omega) (by first | decide | omega) (by first | decide | omega) (by first | decide | omega) y
      omega
    refine ⟨F', by rw [C_53s h4 hm m2 l0 (by first | decide | omega) hV, e], fun j a b => ?_, fun c y k h => ?_⟩
    · by_cases jl : j = l
      · subst jl
        rw [g2 1 _ 7 (fun ⟨_, _, t, t0, t1, t2⟩ => ne t (by first | decide | omega) t1 t2), zup3_v, if_pos ⟨rfl, rfl, rfl⟩]
      · rw [g1 j (by first | decide | omega) b, zup3_v, if_neg (fun z => ne j (by first | decide | omega) b z.2.1)]
        congr 1
        generalize cmk (F 1 (B 4 q 5 l) 7) (tieC q m F B l) = val
        unfold tieC
        by_cases c : j + 1 < m
        · rw [if_pos c, if_pos c, zup3_v, if_neg (show ¬ ((1 : Nat) = 1 ∧ B 4 q 5 (j + 1) = B 4 q 5 l ∧ (7 : Nat) = 7) from fun z => ne (j + 1) (by first | decide | omega) c z.2.1)]
        · rw [if_neg c, if_neg c]
    · rw [g2 c y k (fun ⟨p1, p2, t, t0, t1, t2⟩ => h ⟨p1, p2, t, (by first | decide | omega), t1, t2⟩), zup3_v, if_neg (fun z => h ⟨z.1, z.2.2, l, Int.le_refl _, (by first | decide | omega), z.2.1.symm⟩)]
def tieM (v w m : Int) (B : zB) (j : Int) : Int := if j + 1 < m then zand (B 13 w 18 (1000 * v + j + 1)) 1 else 0
theorem L_92s {o : oT_W} {K : Nat} {F : zF} {B : zB} {v w m l : Int} {n : Nat} (hv : F 14 0 35 = v) (v0 : 0 ≤ v ∧ v < 4) (hw : F 14 0 6 = w) (w0 : 0 ≤ w ∧ w < 3) (hm : F 14 0 36 = m) (m2 : m ≤ 200) (l0 : 0 ≤ l) (lm : l < m) : f_M_goBack_92 o K (n + 1) l F B = f_M_goBack_92 o K n (l + 1) F (zup4 B 13 w 18 (1000 * v + l) (rmk (B 13 w 18 (1000 * v + l)) (tieM v w m B l))) := by
  have e180 : ∀ (rec : Int → zF → zB → zO) a b c d, f_M_goBack_180 o rec K a b c (1000 * v + l) l d F B = rec (l + 1) F (zup4 B 13 w 18 (1000 * v + l) (zor (zor (zor (zand c (-8)) b) a) d)) := fun rec a b c d => by
    unfold f_M_goBack_180
    rw [hw, if_pos w0, if_pos (by first | decide | omega)]
  have e152 : ∀ (rec : Int → zF → zB → zO) c s, f_M_goBack_152 o rec K c (1000 * v + l) l s F B = rec (l + 1) F (zup4 B 13 w 18 (1000 * v + l) (rmk c s)) := fun rec c s => by
    unfold f_M_goBack_152 f_M_goBack_166 rmk
    rw [if_pos (zand_r32 _ _)]
    by_cases z : zand c 4 ≤ 0
    · rw [if_pos z, if_pos z, if_pos (zand_r32 _ _)]
      by_cases y : zand c 2 ≤ 0
      · rw [if_pos y, if_pos y, e180]
      · rw [if_neg y, if_neg y, e180]
    · rw [if_neg z, if_neg z, if_pos (zand_r32 _ _)]
      by_cases y : zand c 2 ≤ 0
      · rw [if_pos y, if_pos y, e180]
      · rw [if_neg y, if_neg y, e180]
  rw [f_M_goBack_92, hm, hv, hw, if_pos (by unfold r32; omega), if_pos (by unfold r32; omega), if_neg (by first | decide | omega), if_pos w0, if_pos (by first | decide | omega), if_pos (by unfold r32; omega), e152]
  unfold tieM
  by_cases c : m - 1 ≤ l
  · rw [if_pos c, if_neg (by first | decide | omega)]
  · rw [if_neg c, if_pos (by first | decide | omega), if_pos (by first | decide | omega), e152]
theorem L_92 {o : oT_W} {K : Nat} {F : zF} {v w m : Int} (hv : F 14 0 35 = v) (v0 : 0 ≤ v ∧ v < 4) (hw : F 14 0 6 = w) (w0 : 0 ≤ w ∧ w < 3) (hm : F 14 0 36 = m) (m1 : -1 ≤ m) (m2 : m ≤ 200) : ∀ (d n : Nat) {l : Int} {B : zB}, (m - l).toNat = d → d < n → 0 ≤ l → l ≤ 200 → ∃ B', f_M_goBack_92 o K n l F B = some (0, F, B') ∧ (∀ j, l ≤ j → j < m → B' 13 w 18 (1000 * v + j) = rmk (B 13 w 18 (1000 * v + j)) (tieM v w m B j)) ∧ ∀ c i k y, ¬ (c = 13 ∧ i = w ∧ k = 18 ∧ 1000 * v + l ≤ y ∧ y < 1000 * v + m) → B' c i k y = B c i k y := by
  intro d
  induction d with
  | zero =>
    intro n l B hd hn l0 l2
    obtain ⟨n, rfl⟩ : ∃ m, n = m + 1 := ⟨n - 1, (by first | decide | omega)⟩
    exact ⟨B, by rw [f_M_goBack_92, hm, if_pos (by unfold r32; omega), if_pos (by unfold r32; omega), if_pos (by first | decide | omega)], fun j a b => (by first | decide | omega), fun _ _ _ _ _ => rfl⟩
  | succ d ih =>
    intro n l B hd hn l0 l2
    obtain ⟨n, rfl⟩ : ∃ m, n = m + 1 := ⟨n - 1, (by first | decide | omega)⟩
    obtain ⟨B', e, g1, g2⟩ := ih n (l := l + 1) (B := zup4 B 13 w 18 (1000 * v + l) (rmk (B 13 w 18 (1000 * v + l)) (tieM v w m B l))) (by first | decide | omega) (by first | decide | omega) (by first | decide | omega) (by first | decide | omega)
    refine ⟨B', by rw [L_92s hv v0 hw w0 hm m2 l0 (by first | decide | omega), e], fun j a b => ?_, fun c i k y h => ?_⟩
    · by_cases jl : j = l
      · subst jl
        rw [g2 _ _ _ _ (by first | decide | omega), zup4_v, if_pos ⟨rfl, rfl, rfl, rfl⟩]
      · rw [g1 j (by first | decide | omega) b, zup4_v, if_neg (by first | decide | omega)]
        congr 1
        unfold tieM
        by_cases c : j + 1 < m
        · rw [if_pos c, if_pos c, zup4_v, if_neg (by first | decide | omega)]
        · rw [if_neg c, if_neg c]
    · rw [g2 c i k y (by first | decide | omega), zup4_v, if_neg (by first | decide | omega)]
end
end
section
section
/-! ===== what was made is turned round, both sides ===== -/
theorem EVW_g {w e x x' : Int} {F F' : zF} {B Bm B' Bm' : zB} (h : EVW w e x F B Bm) (h1 : ∀ k, ¬ k = 7 → F' 1 e k = F 1 e k) (h2 : ∀ k y, B' 1 e k y = B 1 e k y) (h3 : ∀ k, 16 ≤ k → k ≤ 26 → ¬ k = 18 → Bm' 13 w k x' = Bm 13 w k x) (h4 : ∀ k t, 28 ≤ k → k ≤ 29 → 0 ≤ t → t < 6 → Bm' 13 w k (6 * x' + t) = Bm 13 w k (6 * x + t)) (h5 : ∀ y, Bm' 14 0 8 y = Bm 14 0 8 y) (h7 : F' 1 e 7 = Bm' 13 w 18 x' ∧ 0 ≤ F' 1 e 7 ∧ F' 1 e 7 < 128) : EVW w e x' F' B' Bm' := by
  unfold EVW EPR at h ⊢
  simp only [h1 1 (by decide), h1 2 (by decide), h1 3 (by decide), h1 4 (by decide), h1 5 (by decide), h1 6 (by decide), h1 8 (by decide), h1 9 (by decide), h1 10 (by decide), h2, h5, h3 16 (by decide) (by decide) (by decide), h3 17 (by decide) (by decide) (by decide), h3 19 (by decide) (by decide) (by decide), h3 20 (by decide) (by decide) (by decide), h3 21 (by decide) (by decide) (by decide), h3 22 (by decide) (by decide) (by decide), h3 23 (by decide) (by decide) (by decide), h3 24 (by decide) (by decide) (by decide), h3 25 (by decide) (by decide) (by decide), h3 26 (by decide) (by decide) (by decide)]
  obtain ⟨a1, a2, a3, a4, a5, a6, a7, a8, a9, a10, a11, e1, e2, e3, e4, e5⟩ := h
  refine ⟨a1, a2, a3, a4, a5, a6, a7, a8, h7, a10, a11, trivial, e2, e3, fun k u v => ?_, e5⟩
  rw [h4 28 _ (by decide) (by decide) u (by first | decide | omega), h4 29 _ (by decide) (by decide) u (by first | decide | omega)]
  exact e4 k u v
/-- what the turning may change, exactly -/
theorem T_parts {K : zK} {Km : Nat} {o : oT_W} {q v w m mm fr : Int} {F : zF} {B : zB} {Fm : zF} {Bm : zB} (hK : 3002 ≤ K.1) (hKm : 3002 < Km) (h4 : 0 ≤ q ∧ q < K.2 4) (v0 : 0 ≤ v ∧ v < 4) (w0 : 0 ≤ w ∧ w < 3) (hV : ∀ t, 0 ≤ t → t < 200 → 0 ≤ B 4 q 5 t ∧ B 4 q 5 t < K.2 1) (hI : inJ q B) (hv : Fm 14 0 35 = v) (hw : Fm 14 0 6 = w) (hm : F 4 q 6 = m) (m0 : 0 ≤ m ∧ m ≤ 200) (hmm : Fm 14 0 36 = mm) (mm0 : 0 ≤ mm ∧ mm ≤ 200) (f0 : 0 ≤ fr ∧ fr ≤ 200) : ∃ F' B' B1 Bm1 Bm', f_Part_turn K q fr F B = some (0, F', B') ∧ f_M_goBack_50 o Km Km (Fm 14 0 36 - 1) fr fr Fm Bm = some (0, Fm, Bm') ∧ B' = B1 ∧ (∀ j, B1 4 q 5 j = B 4 q 5 (rv fr (m - 1) j)) ∧ (∀ c i k y, ¬ (c = 4 ∧ i = q ∧ k = 5) → B1 c i k y = B c i k y) ∧ inJ q B1 ∧ (∀ j, fr ≤ j → j < m → F' 1 (B1 4 q 5 j) 7 = cmk (F 1 (B1 4 q 5 j) 7) (tieC q m F B1 j)) ∧ (∀ c y k, ¬ (c = 1 ∧ k = 7 ∧ ∃ j, fr ≤ j ∧ j < m ∧ B1 4 q 5 j = y) → F' c y k = F c y k) ∧ rvB v w fr (mm - 1) Bm Bm1 ∧ (∀ j, fr ≤ j → j < mm → Bm' 13 w 18 (1000 * v + j) = rmk (Bm1 13 w 18 (1000 * v + j)) (tieM v w mm Bm1 j)) ∧ (∀ c i k y, ¬ (c = 13 ∧ i = w ∧ k = 18 ∧ 1000 * v + fr ≤ y ∧ y < 1000 * v + mm) → Bm' c i k y = Bm1 c i k y) := by
  obtain ⟨B1, e1, p1, p2⟩ := C_turn9 (K := K) (F := F) (q := q) (fr := fr) h4 200 K.1 (lo := fr) (hi := m - 1) (B := B) (by first | decide | omega) (by first | decide | omega) f0.1 f0.2 (by first | decide | omega) (by first | decide | omega) hV
  have hV1 : ∀ t, 0 ≤ t → t < 200 → 0 ≤ B1 4 q 5 t ∧ B1 4 q 5 t < K.2 1 := fun t a b => by
    rw [p1]
    have := rv_b (lo := fr) (hi := m - 1) (n := 200) f0.1 (by first | decide | omega) a b
    exact hV _ this.1 this.2
  have hI1 : inJ q B1 := fun t t' a b a' b' y => by
    rw [p1, p1] at y
    have z1 := rv_b (lo := fr) (hi := m - 1) (n := 200) f0.1 (by first | decide | omega) a b
    have z2 := rv_b (lo := fr) (hi := m - 1) (n := 200) f0.1 (by first | decide | omega) a' b'
    have := hI _ _ z1.1 z1.2 z2.1 z2.2 y
    rw [← rv_i (lo := fr) (hi := m - 1) (j := t), this, rv_i]
  obtain ⟨F', e2, p3, p4⟩ := C_53 (K := K) (q := q) (m := m) (B := B1) h4 m0.2 hV1 hI1 (m - fr).toNat K.1 (l := fr) (F := F) rfl (by first | decide | omega) f0.1 f0.2 (by first | decide | omega) hm
  obtain ⟨Bm1, e3, p5⟩ := L_gb50 (o := o) (K := Km) (F := Fm) (fr := fr) (by first | decide | omega) hv v0 hw w0 200 Km (lo := fr) (hi := mm - 1) (B := Bm) (by first | decide | omega) (by first | decide | omega) f0.1 f0.2 (by first | decide | omega) (by first | decide | omega)
  obtain ⟨Bm', e4, p6, p7⟩ := L_92 (o := o) (K := Km) hv v0 hw w0 hmm (by first | decide | omega) mm0.2 (mm - fr).toNat Km (l := fr) (B := Bm1) rfl (by first | decide | omega) f0.1 f0.2
  refine ⟨F', B1, B1, Bm1, Bm', ?_, ?_, rfl, p1, p2, hI1, p3, p4, p5, p6, p7⟩
  · unfold f_Part_turn
    rw [if_pos h4, hm, e1, e2]
  · rw [hmm, e3, e4]
theorem sumZ_v {g : Int → Int} {lo : Int} {n : Nat} (l0 : 0 ≤ lo) : sumZ (fun j => g (rv lo (n - 1) j)) n = sumZ g n := by
  by_cases c : (n : Int) ≤ lo
  · exact sumZ_c (fun j a b => by unfold rv; rw [if_neg (by first | decide | omega)])
  · obtain ⟨a, ha⟩ : ∃ k : Nat, lo = k := ⟨lo.toNat, (by first | decide | omega)⟩
    obtain ⟨k, hk⟩ : ∃ k : Nat, n = a + k := ⟨n - a, (by first | decide | omega)⟩
    rw [hk, sumZ_a, sumZ_a, sumZ_c (g := fun j => g (rv lo (((a + k : Nat) : Int) - 1) j)) (h := g) (n := a) (fun j p r => by show g (rv lo _ j) = g j; unfold rv; rw [if_neg (by first | decide | omega)])]
    congr 1
    rw [← sumZ_r (f := fun t => g (a + t)) (n := k)]
    exact sumZ_c (fun j p r => by
      show g (rv lo _ ((a : Int) + j)) = g (a + ((k : Int) - 1 - j))
      unfold rv
      rw [if_pos (by first | decide | omega), show lo + (((a + k : Nat) : Int) - 1) - (a + j) = a + ((k : Int) - 1 - j) by omega])
theorem T_frame {q v w m mm fr : Int} {F F' : zF} {B B1 : zB} {Fm : zF} {Bm Bm1 Bm' : zB} (hm : F 4 q 6 = m) (m0 : 0 ≤ m ∧ m ≤ 200) (mm0 : 0 ≤ mm ∧ mm ≤ 200) (f0 : 0 ≤ fr ∧ fr ≤ 200) (p1 : ∀ j, B1 4 q 5 j = B 4 q 5 (rv fr (m - 1) j)) (p2 : ∀ c i k y, ¬ (c = 4 ∧ i = q ∧ k = 5) → B1 c i k y = B c i k y) (hI1 : inJ q B1) (p4 : ∀ c y k, ¬ (c = 1 ∧ k = 7 ∧ ∃ j, fr ≤ j ∧ j < m ∧ B1 4 q 5 j = y) → F' c y k = F c y k) (p5 : rvB v w fr (mm - 1) Bm Bm1) (p7 : ∀ c i k y, ¬ (c = 13 ∧ i = w ∧ k = 18 ∧ 1000 * v + fr ≤ y ∧ y < 1000 * v + mm) → Bm' c i k y = Bm1 c i k y) : WFR q v w F B Fm Bm F' B1 Fm Bm' := by
  have own : ∀ j, 0 ≤ j → j < 200 → ownE B q (B1 4 q 5 j) := fun j a b => by
    have z := rv_b (lo := fr) (hi := m - 1) (n := 200) f0.1 (by first | decide | omega) a b
    exact ⟨_, z.1, z.2, (p1 j).symm⟩
  refine ⟨fun c y k a b d => p4 c y k (fun ⟨z1, _, j, j0, j1, j2⟩ => d ⟨z1, by rw [← j2]; exact own j (by first | decide | omega) (by first | decide | omega)⟩), fun c y k x a b d => p2 c y k x b, fun y => ⟨?_, ?_⟩, fun _ _ _ _ => rfl, fun c i k x a b => ?_, fun _ => ⟨hI1, fun c => ⟨by rw [p4 4 q 6 (by first | decide | omega)]; exact c, ?_⟩⟩⟩
  · intro ⟨j, j0, j1, j2⟩
    rw [← j2]
    exact own j j0 j1
  · intro ⟨j, j0, j1, j2⟩
    have z := rv_b (lo := fr) (hi := m - 1) (n := 200) f0.1 (by first | decide | omega) j0 j1
    exact ⟨_, z.1, z.2, by rw [p1, rv_i]; exact j2⟩
  · have b' := b
    unfold inV at b'
    rw [p7 c i k x (by first | decide | omega), p5.2.2 c i k x b]
  · unfold SD
    rw [p4 11 0 11 (by first | decide | omega), p4 4 q 6 (by first | decide | omega), hm]
    obtain ⟨mn', hmn⟩ : ∃ k : Nat, m = k := ⟨m.toNat, (by first | decide | omega)⟩
    rw [show m.toNat = mn' by omega, ← sumZ_v (g := fun j => F 1 (B 4 q 5 j) 1) (n := mn') f0.1, sumZ_c (fun j a b => by
      show F' 1 (B1 4 q 5 j) 1 = F 1 (B 4 q 5 (rv fr ((mn' : Int) - 1) j)) 1
      rw [p4 1 _ 1 (fun z => absurd z.2.1 (by decide)), p1, hmn])]
theorem P_turn {K : zK} {Km : Nat} {o : oT_W} {N q v w bar fr : Int} {D : Nat} {F : zF} {B : zB} {Fm : zF} {Bm : zB} (hC : WC K Km N q v w bar B Fm Bm) (hS : WS q v w bar D F B Fm Bm) (f0 : 0 ≤ fr ∧ fr ≤ F 4 q 6) : zP (f_Part_turn K q fr F B) (f_M_goBack_50 o Km Km (Fm 14 0 36 - 1) fr fr Fm Bm) (fun _ F' B' _ Fm' Bm' => WFR q v w F B Fm Bm F' B' Fm' Bm' ∧ WS q v w bar D F' B' Fm' Bm' ∧ WKP q F B Fm Bm F' B' Fm' Bm') := by
  obtain ⟨hK, hKm, h11, h3, h4, v0, w0, _, hV, hI, _⟩ := hC
  obtain ⟨s1, ⟨b1, b2, b3⟩, s3, s4, s5, s6, s7, s8, s9, s10, s11, s12, ⟨o1, o2, o3, o4⟩⟩ := hS
  generalize hm : F 4 q 6 = m at o1 o2 o3 o4 f0
  obtain ⟨F', B', B1, Bm1, Bm', e1, e2, e3, p1, p2, hI1, p3, p4, p5, p6, p7⟩ := T_parts (K := K) (Km := Km) (F := F) (B := B) (Fm := Fm) (Bm := Bm) (o := o) (m := m) (mm := m) (fr := fr) hK (by first | decide | omega) h4 v0 w0 hV hI b1 b2 hm ⟨o2, o3⟩ o1.symm ⟨o2, o3⟩ (by first | decide | omega)
  subst e3
  rw [e1, e2]
  have fn : ∀ (c : Nat) y k, ¬ c = 1 → F' c y k = F c y k := fun c y k n => p4 c y k (fun z => n z.1)
  have bn : ∀ (c : Nat) i k y, ¬ c = 4 → B' c i k y = B c i k y := fun c i k y n => p2 c i k y (fun z => n z.1)
  have mn : ∀ (c : Nat) i k y, ¬ c = 13 → Bm' c i k y = Bm c i k y := fun c i k y n => by
    rw [p7 c i k y (fun z => n z.1), p5.2.2 c i k y (fun z => n z.1)]
  have m14 : ∀ k y, Bm' 14 0 k y = Bm 14 0 k y := fun k y => mn 14 0 k y (by decide)
  refine zP_s ⟨T_frame hm ⟨o2, o3⟩ ⟨o2, o3⟩ (by first | decide | omega) p1 p2 hI1 p4 p5 p7, ?_, ?_⟩
  · refine ⟨by simp only [fn 11 0 _ (by decide)]; exact s1, by simp only [fn 11 0 _ (by decide)]; exact ⟨b1, b2, b3⟩, by simp only [fn 11 0 _ (by decide)]; exact s3, by simp only [fn 11 0 _ (by decide)]; exact s4, by simp only [fn 11 0 _ (by decide)]; exact s5, by simp only [fn 11 0 _ (by decide)]; exact s6, by simp only [fn 11 0 _ (by decide)]; exact s7, by simp only [fn 11 0 _ (by decide), m14]; exact s8, ?_, by simp only [fn 11 0 _ (by decide)]; exact s10, ?_, ?_, ?_⟩
    · simp only [fn 11 0 _ (by decide)]
      unfold TPL at s9 ⊢
      simp only [m14]
      exact s9
    · simp only [bn 11 0 _ _ (by decide), m14]
      exact s11
    · simp only [fn 11 0 _ (by decide)]
      refine ⟨s12.1, s12.2.1, s12.2.2.1, fun k u t => ?_⟩
      have := s12.2.2.2 k u t
      unfold CRk at this ⊢
      simp only [bn 11 0 _ _ (by decide), m14]
      exact this
    · rw [fn 4 q 6 (by decide), hm]
      refine ⟨o1, o2, o3, fun j j0 j1 => ?_⟩
      have rb : ∀ t, 0 ≤ t → t < m → 0 ≤ rv fr (m - 1) t ∧ rv fr (m - 1) t < m := fun t a b => rv_b f0.1 (by first | decide | omega) a b
      have ev : ∀ t, 0 ≤ t → t < m → EVW w (B' 4 q 5 t) (1000 * v + rv fr (m - 1) t) F B Bm := fun t a b => by
        rw [p1]
        exact o4 _ (rb t a b).1 (rb t a b).2
      have mk : ∀ t, 0 ≤ t → t < m → F 1 (B' 4 q 5 t) 7 = Bm1 13 w 18 (1000 * v + t) ∧ 0 ≤ F 1 (B' 4 q 5 t) 7 ∧ F 1 (B' 4 q 5 t) 7 < 128 := fun t a b => by
        have := (ev t a b).2.2.2.2.2.2.2.2.1
        rw [p5.1 18 t (by decide) (by decide) a (by first | decide | omega)]
        exact this
      refine EVW_g (ev j j0 j1) (fun k n => p4 1 _ k (fun z => n z.2.1)) (fun k y => bn 1 _ k y (by decide)) (fun k a b n => ?_) (fun k t a b t0 t1 => ?_) (fun y => m14 8 y) ?_
      · rw [p7 _ _ _ _ (by first | decide | omega), p5.1 k j a b j0 (by first | decide | omega)]
      · rw [p7 _ _ _ _ (by first | decide | omega), p5.2.1 k j t a b j0 (by first | decide | omega) t0 t1]
      · obtain ⟨k1, k2, k3⟩ := mk j j0 j1
        by_cases c : fr ≤ j
        · have tt : tieC q m F B' j = tieM v w m Bm1 j ∧ (tieC q m F B' j = 0 ∨ tieC q m F B' j = 1) := by
            unfold tieC tieM
            by_cases d : j + 1 < m
            · rw [if_pos d, if_pos d]
              obtain ⟨y1, y2, y3⟩ := mk (j + 1) (by first | decide | omega) d
              rw [show 1000 * v + j + 1 = 1000 * v + (j + 1) by omega, ← y1]
              rcases tie_e y2 y3 with z | z
              · rw [z]; exact ⟨by decide, by decide⟩
              · rw [z]; exact ⟨by decide, by decide⟩
            · rw [if_neg d, if_neg d]
              exact ⟨rfl, Or.inl rfl⟩
          rw [p3 j c j1, p6 j c j1, ← k1, ← tt.1]
          exact mk_e k2 k3 tt.2
        · rw [p4 1 _ 7 (fun ⟨_, _, t, t0, t1, t2⟩ => by have := hI1 t j (by first | decide | omega) (by first | decide | omega) (by first | decide | omega) (by first | decide | omega) t2; omega), p7 _ _ _ _ (by first | decide | omega)]
          exact ⟨k1, k2, k3⟩
  · refine ⟨⟨fn _ _ _ (by decide), fn _ _ _ (by decide), fn _ _ _ (by decide), fn _ _ _ (by decide), fn _ _ _ (by decide)⟩, fun k u t => bn _ _ _ _ (by decide), fun k u t => ⟨bn _ _ _ _ (by decide), bn _ _ _ _ (by decide), bn _ _ _ _ (by decide), m14 _ _, m14 _ _, m14 _ _⟩, fun k u t => ⟨m14 _ _, m14 _ _⟩, fun u => ⟨fn _ _ _ (by decide), fn _ _ _ (by decide), rfl⟩, by rw [fn _ _ _ (by decide)]; exact Int.le_refl _⟩
theorem P_turnE {K : zK} {Km : Nat} {o : oT_W} {N q v w bar fr : Int} {D : Nat} {F : zF} {B : zB} {Fm : zF} {Bm : zB} (hC : WC K Km N q v w bar B Fm Bm) (hS : WE D q v w F Fm) (f0 : 0 ≤ fr ∧ fr ≤ 200) : zP (f_Part_turn K q fr F B) (f_M_goBack_50 o Km Km (Fm 14 0 36 - 1) fr fr Fm Bm) (fun _ F' B' _ Fm' Bm' => WFR q v w F B Fm Bm F' B' Fm' Bm' ∧ WE D q v w F' Fm') := by
  obtain ⟨hK, hKm, h11, h3, h4, v0, w0, _, hV, hI, _⟩ := hC
  obtain ⟨a1, a2, a3, a4, a5, a6, a7, a8, a9, a10⟩ := hS
  obtain ⟨F', B', B1, Bm1, Bm', e1, e2, e3, p1, p2, hI1, p3, p4, p5, p6, p7⟩ := T_parts (K := K) (Km := Km) (F := F) (B := B) (Fm := Fm) (Bm := Bm) (o := o) (m := F 4 q 6) (mm := Fm 14 0 36) (fr := fr) hK (by first | decide | omega) h4 v0 w0 hV hI a6 a7 rfl a8 rfl a9 f0
  subst e3
  rw [e1, e2]
  have fn : ∀ (c : Nat) y k, ¬ c = 1 → F' c y k = F c y k := fun c y k n => p4 c y k (fun z => n z.1)
  refine zP_s ⟨T_frame rfl a8 a9 f0 p1 p2 hI1 p4 p5 p7, ?_⟩
  refine ⟨by rw [fn _ _ _ (by decide)]; exact a1, by rw [fn _ _ _ (by decide)]; exact a2, by rw [fn _ _ _ (by decide)]; exact a3, a4, a5, a6, a7, by rw [fn _ _ _ (by decide)]; exact a8, a9, by rw [fn _ _ _ (by decide)]; exact a10⟩
end
end
section
section
/-! ===== the walk: what stands fast, counting ===== -/
theorem WC_f {K : zK} {Km : Nat} {N q v w bar : Int} {F F' : zF} {B B' : zB} {Fm Fm' : zF} {Bm Bm' : zB} (h : WC K Km N q v w bar B Fm Bm) (f : WFR q v w F B Fm Bm F' B' Fm' Bm') : WC K Km N q v w bar B' Fm' Bm' := by
  obtain ⟨a1, a2, a3, a4, a5, a6, a7, ⟨t0, t1, t2⟩, a9, a10, a11⟩ := h
  obtain ⟨f1, f2, f3, f4, f5, f6⟩ := f
  have b10 : ∀ k y, B' 10 0 k y = B 10 0 k y := fun k y => f2 10 0 k y (by first | decide | omega) (by first | decide | omega) (by first | decide | omega)
  have m14 : ∀ (k : Nat) y, k < 42 → Bm' 14 0 k y = Bm 14 0 k y := fun k y n => f5 14 0 k y (by first | decide | omega) (by unfold inV; omega)
  refine ⟨a1, a2, a3, a4, a5, a6, a7, ⟨t0, t1, fun j u v => ?_⟩, fun t u v => ?_, (f6 a10).1, ?_⟩
  · have := t2 j u v
    unfold TKj at this ⊢
    simp only [b10, m14 7 _ (by decide), m14 8 _ (by decide), m14 9 _ (by decide), m14 10 _ (by decide), m14 11 _ (by decide)]
    exact this
  · obtain ⟨j, j0, j1, j2⟩ := (f3 (B' 4 q 5 t)).mp ⟨t, u, v, rfl⟩
    rw [← j2]
    exact a9 j j0 j1
  · rw [f4 13 w 4 (by first | decide | omega), f4 13 w 5 (by first | decide | omega)]
    exact a11
/-- the tree as it was parsed -/
def WT (N : Int) (B0 Bm0 B Bm : zB) : Prop := (∀ k y, B 3 0 k y = B0 3 0 k y) ∧ (∀ (k : Nat) y, k < 30 ∨ (34 < k ∧ k < 42) → Bm 14 0 k y = Bm0 14 0 k y) ∧ (∀ (k : Nat) y, 30 ≤ k → k ≤ 34 → y < N → Bm 14 0 k y = Bm0 14 0 k y) ∧ (∀ y, N ≤ y → Bm0 14 0 30 y ≤ y ∧ Bm0 14 0 31 y ≤ y)
theorem WT_f {N q v w : Int} {F F' : zF} {B B' : zB} {Fm Fm' : zF} {B0 Bm0 Bm Bm' : zB} (h : WT N B0 Bm0 B Bm) (f : WFR q v w F B Fm Bm F' B' Fm' Bm') : WT N B0 Bm0 B' Bm' := by
  obtain ⟨f1, f2, f3, f4, f5, f6⟩ := f
  exact ⟨fun k y => by rw [f2 3 0 k y (by first | decide | omega) (by first | decide | omega) (by first | decide | omega)]; exact h.1 k y, fun k y n => by rw [f5 14 0 k y (by first | decide | omega) (by unfold inV; omega)]; exact h.2.1 k y n, fun k y n n' u => by rw [f5 14 0 k y (by first | decide | omega) (by unfold inV; omega)]; exact h.2.2.1 k y n n' u, h.2.2.2⟩
theorem P_count {K : zK} {Km : Nat} {q v w bar i : Int} {D : Nat} {F : zF} {B : zB} {Fm : zF} {Bm : zB} (h11 : 0 < K.2 11) (hS : WS q v w bar D F B Fm Bm) (hD : D ≤ 64) (hi : 0 ≤ i ∧ i < 3001) (hp : 0 ≤ Bm 14 0 8 i ∧ Bm 14 0 8 i ≤ 3000) : zP (f_Walker_countItem K 0 (Bm 14 0 8 i) F B) (f_M_counts Km i Fm Bm) (fun _ F' B' _ Fm' Bm' => B' = B ∧ Bm' = Bm ∧ WFR q v w F B Fm Bm F' B' Fm' Bm' ∧ ((WS q v w bar D F' B' Fm' Bm' ∧ F' 11 0 7 < F' 11 0 3 ∧ WKP q F B Fm Bm F' B' Fm' Bm') ∨ WE D q v w F' Fm')) := by
  have hS' := hS
  obtain ⟨⟨a1, a2, a3, a4⟩, ⟨b1, b2, b3, b4⟩, ⟨c1, c2, c3⟩, s4, s5, s6, s7, s8, s9, s10, s11, s12, s13⟩ := hS
  unfold f_Walker_countItem f_M_counts f_Walker_countItem_27 f_M_counts_30
  have r0 : r32 (F 11 0 3) := by unfold r32; omega
  have r1 : r32 (F 11 0 3 + 1) := by unfold r32; omega
  rw [if_pos ⟨Int.le_refl _, h11⟩, if_pos r1, ← c1, if_pos r0]
  by_cases c : F 11 0 3 = 5000
  · rw [if_neg (show ¬ F 11 0 3 + 1 ≤ 5000 by omega), if_pos c, C_wref h11 (by rw [zup3_v, if_neg (by decide)]; exact a3), zb_s, L_failAt a4 hi, zb_s]
    refine zP_s ⟨rfl, rfl, ⟨fun c y k n _ _ => by rw [zup3_v, if_neg (by first | decide | omega), zup3_v, if_neg (by first | decide | omega)], fun _ _ _ _ _ _ _ => rfl, fun _ => Iff.rfl, fun c y k n => by rw [flM_n (by first | decide | omega)], fun _ _ _ _ _ _ => rfl, fun h => ⟨h, fun c => ⟨by rw [zup3_v, if_neg (by first | decide | omega), zup3_v, if_neg (by first | decide | omega)]; exact c, SD_c (by rw [zup3_v, if_neg (by first | decide | omega), zup3_v, if_neg (by first | decide | omega)]) (by rw [zup3_v, if_neg (by first | decide | omega), zup3_v, if_neg (by first | decide | omega)]) c (fun j _ _ => by rw [zup3_v, if_neg (by first | decide | omega), zup3_v, if_neg (by first | decide | omega)])⟩⟩⟩, Or.inr ⟨?_, ?_, ?_, flM_b (by decide) (by decide), ?_, ?_, ?_, ?_, ?_, ?_⟩⟩
    · rw [zup3_v, if_neg (by decide), zup3_v, if_neg (by decide)]; exact a1
    · rw [zup3_v, if_neg (by decide), zup3_v, if_neg (by decide)]; exact a2
    · rw [zup3_v, if_pos (by decide), flM_17, flM_18]
    · rw [flM_18]; exact hp
    · rw [flM_n (by decide)]; exact b1
    · rw [flM_n (by decide)]; exact b2
    · rw [zup3_v, if_neg (by first | decide | omega), zup3_v, if_neg (by first | decide | omega)]; omega
    · rw [flM_n (by decide)]; omega
    · rw [zup3_v, if_neg (by decide), zup3_v, if_pos (by decide)]; omega
  · rw [if_pos (show F 11 0 3 + 1 ≤ 5000 by omega), if_neg c]
    have fn : ∀ c y k, ¬ (c = 11 ∧ y = 0 ∧ k = 3) → zup3 F 11 0 3 (F 11 0 3 + 1) c y k = F c y k := fun c y k n => by rw [zup3_v, if_neg n]
    have f3 : zup3 F 11 0 3 (F 11 0 3 + 1) 11 0 3 = F 11 0 3 + 1 := by rw [zup3_v, if_pos (by decide)]
    have gn : ∀ c y k, ¬ (c = 14 ∧ y = 0 ∧ k = 37) → zup3 Fm 14 0 37 (F 11 0 3 + 1) c y k = Fm c y k := fun c y k n => by rw [zup3_v, if_neg n]
    have g3 : zup3 Fm 14 0 37 (F 11 0 3 + 1) 14 0 37 = F 11 0 3 + 1 := by rw [zup3_v, if_pos (by decide)]
    generalize zup3 F 11 0 3 (F 11 0 3 + 1) = X at fn f3 ⊢
    generalize zup3 Fm 14 0 37 (F 11 0 3 + 1) = Y at gn g3 ⊢
    have e1 : ∀ y k, X 1 y k = F 1 y k := fun y k => fn 1 y k (by first | decide | omega)
    refine zP_s ⟨rfl, rfl, ⟨fun c y k n _ _ => fn c y k (by first | decide | omega), fun _ _ _ _ _ _ _ => rfl, fun _ => Iff.rfl, fun c y k n => gn c y k (by first | decide | omega), fun _ _ _ _ _ _ => rfl, fun h => ⟨h, fun c => ⟨by rw [fn 4 q 6 (by first | decide | omega)]; exact c, SD_c (fn 11 0 11 (by first | decide | omega)) (fn 4 q 6 (by first | decide | omega)) c (fun j _ _ => fn 1 _ 1 (by first | decide | omega))⟩⟩⟩, Or.inl ⟨?_, ?_, ?_⟩⟩
    · refine ⟨?_, ?_, ?_, ?_, ?_, ?_, ?_, ?_, ?_, ?_, s11, ?_, ?_⟩
      · rw [fn 11 0 0 (by decide), fn 11 0 1 (by decide), fn 11 0 2 (by decide), gn 14 0 17 (by decide)]; exact ⟨a1, a2, a3, a4⟩
      · rw [fn 11 0 13 (by decide), fn 11 0 12 (by decide), gn 14 0 35 (by decide), gn 14 0 6 (by decide)]; exact ⟨b1, b2, b3, b4⟩
      · rw [f3, g3]; omega
      · rw [fn 11 0 4 (by decide), gn 14 0 40 (by decide)]; exact s4
      · rw [fn 11 0 5 (by decide), gn 14 0 41 (by decide)]; exact s5
      · rw [fn 11 0 6 (by decide), gn 14 0 48 (by decide)]; exact s6
      · rw [fn 11 0 7 (by decide), f3, gn 14 0 50 (by decide)]; omega
      · rw [fn 11 0 6 (by decide), fn 11 0 7 (by decide), fn 11 0 8 (by decide), gn 14 0 49 (by decide)]; exact s8
      · rw [fn 11 0 6 (by decide), fn 11 0 9 (by decide), fn 11 0 10 (by decide)]; exact s9
      · rw [fn 11 0 11 (by decide), gn 14 0 38 (by decide), gn 14 0 39 (by decide)]; exact s10
      · rw [fn 11 0 18 (by decide), gn 14 0 45 (by decide)]; exact s12
      · rw [fn 4 q 6 (by first | decide | omega), gn 14 0 36 (by decide)]
        exact ⟨s13.1, s13.2.1, s13.2.2.1, fun j u t => EVW_f (s13.2.2.2 j u t) (fun k => e1 _ k) (fun _ _ => rfl) (fun _ _ _ => rfl) (fun _ _ _ _ _ _ => rfl) (fun _ => rfl)⟩
    · rw [fn 11 0 7 (by decide), f3]; omega
    · exact ⟨⟨fn _ _ _ (by decide), fn _ _ _ (by decide), fn _ _ _ (by decide), fn _ _ _ (by decide), fn _ _ _ (by decide)⟩, fun _ _ _ => rfl, fun _ _ _ => ⟨rfl, rfl, rfl, rfl, rfl, rfl⟩, fun _ _ _ => ⟨rfl, rfl⟩, fun _ => ⟨fn _ _ _ (by decide), fn _ _ _ (by decide), gn _ _ _ (by decide)⟩, by rw [fn 4 q 6 (by first | decide | omega)]; exact Int.le_refl _⟩
end
end
