section
section
/-! ===== a file's head whole, both sides ===== -/
/-- behind the head: well, or too long by its own word, or a fault -/
def HQ (o : Int) (F0 : zF) (B0 : zB) (Fm0 : zF) (Bm0 : zB) : Int → zF → zB → Int → zF → zB → Prop := fun _ F B r' Fm Bm => (tkF o F0 F ∧ tkG Fm0 Fm ∧ (∀ c y k x, ¬ (c = 8 ∧ y = o ∧ k = 0 ∧ 0 ≤ x ∧ x ≤ 1) → B c y k x = B0 c y k x) ∧ (∀ c y k x, ¬ (c = 14 ∧ y = 0 ∧ k = 74 ∧ 0 ≤ x ∧ x ≤ 1) → Bm c y k x = Bm0 c y k x)) ∧ (((Fm 14 0 17 = 0 ∧ 0 ≤ r' ∧ r' ≤ 17179869184) ∧ ((B 8 o 0 0 = Bm 14 0 74 0 ∧ 1 ≤ Bm 14 0 74 0 ∧ Bm 14 0 74 0 ≤ 8) ∧ (B 8 o 0 1 = Bm 14 0 74 1 ∧ 1 ≤ Bm 14 0 74 1 ∧ Bm 14 0 74 1 ≤ 960)) ∧ ((F 8 o 7 = 0 ∧ F 8 o 5 = r' ∧ r' ≤ F 0 0 1) ∨ (F 8 o 7 = 2 + 16 * F 0 0 1 ∧ F 0 0 1 < r' ∧ 0 ≤ F 8 o 5 ∧ F 8 o 5 ≤ 3000))) ∨ (RX o F Fm ∧ F 8 o 6 ≤ F 0 0 1))
theorem P_58 {K : zK} {Km : Nat} {o n l : Int} {F : zF} {B : zB} {Fm : zF} {Bm : zB} {F0 Fm0 : zF} (h0 : 2 ≤ K.2 0) (ho : 0 ≤ o ∧ o < K.2 8) (hK : 10 ≤ K.1) (hKm : 10 ≤ Km) (hn : 0 ≤ n ∧ n ≤ 4294967295) (hO : RO o F B Fm Bm) (h6 : F 8 o 6 = F 0 0 1) (t1 : tkF o F0 F) (t2 : tkG Fm0 Fm) (e89 : r32 (Fm 14 0 89)) (hQ : RQo o 8 F Fm) (hl : Fm 14 0 17 = 0 → l = n ∧ 6 ≤ n) : zP (f_SoundFile_loadHead_58 K n o F B) (f_M_header_39 Km l Fm Bm) (HQ o F0 B Fm0 Bm) := by
  unfold f_SoundFile_loadHead_58 f_M_header_39
  rw [if_pos ho, if_pos e89]
  generalize hL : Fm 14 0 89 + l = L
  have eL : Fm 14 0 17 = 0 → L = 8 + n := fun z => by
    have := hl z
    rcases hQ with ⟨g, _⟩ | ⟨x, _⟩
    · have := g.2.2.1; omega
    · have := x.2.1; omega
  refine P_oc (g := fun F B => f_M_header_73 Km L F B) h0 ho (by first | decide | omega) (by first | decide | omega) hO hQ (fun b G g0 b0 b1 => ?_) (fun F' b G x b0 b1 => ?_) (fun F1 G1 u1 u2 hq1 m1 => ?_)
  · rw [if_pos (show r32 b by unfold r32; omega)]
    refine ⟨fun z => ?_, fun z => ?_⟩
    · rw [if_pos (by first | decide | omega)]
    · rw [if_neg (by first | decide | omega), L_good g0, zb_s, if_pos (show r32 1 by decide), if_neg (show ¬ (1 : Int) = 0 by decide), L_fb g0, zb_s]
  · rw [if_pos (show r32 b by unfold r32; omega)]
    by_cases z : b = 0
    · rw [if_pos z]
    · rw [if_neg z, L_goodX x, zb_s, if_pos (show r32 0 by decide), if_pos (show (0 : Int) = 0 from rfl)]
  have hO1 := RO_t hO u1 u2
  show zP _ (f_M_header_73 Km L G1 Bm) _
  unfold f_M_header_73
  refine P_oc (g := fun F B => f_M_header_99 Km L F B) h0 ho (by first | decide | omega) (by first | decide | omega) hO1 hq1 (fun b G g0 b0 b1 => ?_) (fun F' b G x b0 b1 => ?_) (fun F2 G2 v1 v2 hq2 m2 => ?_)
  · rw [if_pos (show r32 b by unfold r32; omega)]
    refine ⟨fun z => ?_, fun z => ?_⟩
    · rw [if_pos (by first | decide | omega)]
    · rw [if_neg (by first | decide | omega), L_good g0, zb_s, if_pos (show r32 1 by decide), if_neg (show ¬ (1 : Int) = 0 by decide), L_fb g0, zb_s]
  · rw [if_pos (show r32 b by unfold r32; omega)]
    by_cases z : b ≤ 1
    · rw [if_pos z]
    · rw [if_neg z, L_goodX x, zb_s, if_pos (show r32 0 by decide), if_pos (show (0 : Int) = 0 from rfl)]
  have hO2 := RO_t hO1 v1 v2
  show zP _ (f_M_header_99 Km L G2 Bm) _
  unfold f_M_header_99
  refine P_bind (P_bnd (Km := Km) h0 ho hK hKm (by first | decide | omega) (by first | decide | omega) hO2 hq2) (fun r F3 B3 r' G3 D3 y => ?_)
  obtain ⟨rfl, rfl, w1, w2, hq3, y8⟩ := y
  have hO3 := RO_t hO2 w1 w2
  have hO3' : RO o F3 (zup4 B3 8 o 0 0 r) G3 (zup4 D3 14 0 74 0 r') := by
    obtain ⟨o1, o2, o3, o4⟩ := hO3
    refine ⟨o1, o2, fun y => ?_, ?_⟩
    · rw [zup4_v, if_neg (by first | decide | omega)]; exact o3 y
    · funext y
      show (zup4 D3 14 0 74 0 r') 14 0 2 y % 256 = _
      rw [zup4_v, if_neg (by first | decide | omega), zup4_v, if_neg (by first | decide | omega)]
      exact congrFun o4 y
  refine P_bind (P_bnd (Km := Km) h0 ho hK hKm (by first | decide | omega) (by first | decide | omega) hO3' hq3) (fun s F4 B4 s' G4 D4 y => ?_)
  obtain ⟨rfl, rfl, x1, x2, hq4, z8⟩ := y
  have f4 : tkF o F0 F4 := tkF_t t1 (tkF_t u1 (tkF_t v1 (tkF_t w1 x1)))
  have g4 : tkG Fm0 G4 := tkG_t t2 (tkG_t u2 (tkG_t v2 (tkG_t w2 x2)))
  have k6 : F4 8 o 6 = F4 0 0 1 := by
    have := tkF_t u1 (tkF_t v1 (tkF_t w1 x1))
    rw [this 8 o 6 (by first | decide | omega), this 0 0 1 (by first | decide | omega)]; exact h6
  have n4 := (RO_t hO3' x1 x2).2.1
  have fB : ∀ c y k x, ¬ (c = 8 ∧ y = o ∧ k = 0 ∧ 0 ≤ x ∧ x ≤ 1) → (zup4 (zup4 B3 8 o 0 0 r) 8 o 0 1 s) c y k x = B3 c y k x := fun c y k x n => by rw [zup4_v, if_neg (by first | decide | omega), zup4_v, if_neg (by first | decide | omega)]
  have fD : ∀ c y k x, ¬ (c = 14 ∧ y = 0 ∧ k = 74 ∧ 0 ≤ x ∧ x ≤ 1) → (zup4 (zup4 D3 14 0 74 0 r') 14 0 74 1 s') c y k x = D3 c y k x := fun c y k x n => by rw [zup4_v, if_neg (by first | decide | omega), zup4_v, if_neg (by first | decide | omega)]
  rcases hq4 with ⟨g, g6⟩ | ⟨x, x6⟩
  · obtain ⟨z9, rfl, zl⟩ := z8 g.2.1
    obtain ⟨y9, rfl, yl⟩ := y8 z9
    have gm := m1 (m2 y9)
    have e1 := eL gm
    have e2 := hl gm
    have ga := g.2.2.1
    rw [C_skip ho (by first | decide | omega) g (by first | decide | omega), zb_s]
    by_cases z : 14 + (n - 6) ≤ F4 8 o 6
    · rw [if_pos (by first | decide | omega)]
      refine P_some ⟨⟨tkF_t f4 (fun c y k n => by rw [zup3_v, if_neg (by first | decide | omega)]), g4, fB, fD⟩, Or.inl ⟨⟨g.2.1, (by first | decide | omega), (by first | decide | omega)⟩, ?_, Or.inl ?_⟩⟩
      · simp only [zup4_v]
        simp
        omega
      · simp only [zup3_v]
        simp
        have := g.1
        omega
    · rw [if_neg (by first | decide | omega)]
      refine P_some ⟨⟨tkF_t f4 (fun c y k n => by rw [zup3_v, if_neg (by first | decide | omega)]), g4, fB, fD⟩, Or.inl ⟨⟨g.2.1, (by first | decide | omega), (by first | decide | omega)⟩, ?_, Or.inr ?_⟩⟩
      · simp only [zup4_v]
        simp
        omega
      · simp only [zup3_v]
        simp
        omega
  · rw [C_skipX ho (by first | decide | omega) x, zb_s]
    exact P_some ⟨⟨f4, g4, fB, fD⟩, Or.inr ⟨x, x6⟩⟩
theorem P_lh {K : zK} {Km : Nat} {o : Int} {F : zF} {B : zB} {Fm : zF} {Bm : zB} (h0 : 2 ≤ K.2 0) (ho : 0 ≤ o ∧ o < K.2 8) (hK : 10 ≤ K.1) (hKm : 10 ≤ Km) (hO : RO o F B Fm Bm) (h6 : F 8 o 6 = F 0 0 1) (g : RG o 0 F Fm) (g6 : 0 ≤ F 8 o 6) : zP (f_SoundFile_loadHead K o F B) (f_M_header Km Fm Bm) (HQ o F B Fm Bm) := by
  unfold f_SoundFile_loadHead f_M_header f_M_expect
  refine P_hl h0 ho 4 K.1 Km 0 F Fm (by first | decide | omega) (by first | decide | omega) (by first | decide | omega) (by first | decide | omega) hO (Or.inl ⟨g, g6⟩) (fun m F1 G1 t1 t2 hq1 m1 => ?_)
  have hO1 := RO_t hO t1 t2
  have b4 : bwn (0 + 4) = 4294967295 := by decide
  have hw := P_wide (Km := Km) (o := o) (l := 4) h0 ho 4 0 K.1 Km 4 0 0 F1 B G1 Bm (by first | decide | omega) (by first | decide | omega) (by first | decide | omega) (by first | decide | omega) (by decide) (by decide) (fun _ => rfl) hO1 hq1
  have l21 : zsl 21 = 4 := by decide
  rw [f_SoundFile_loadHead_5, if_pos (by decide), C_slen (by decide) (by decide), zb_s, if_pos (show r32 4 by decide), l21, if_pos (show r32 4 by decide), if_pos (show (4 : Int) ≤ 4 by decide), if_pos ho]
  refine P_bind (R := fun r F' B' r' Fm' Bm' => B' = B ∧ Bm' = Bm ∧ tkF o F1 F' ∧ tkG G1 Fm' ∧ (0 ≤ r ∧ r ≤ 4294967295) ∧ (0 ≤ r' ∧ r' ≤ 4294967295) ∧ RQo o 8 F' Fm' ∧ (Fm' 14 0 17 = 0 → G1 14 0 17 = 0 ∧ r' = r)) ?_ (fun n F2 B2 n' G2 D2 y => ?_)
  · obtain ⟨r, F', B', r', Fm', Bm', e1, e2, w1, w2, w3, w4, w5, w6, w7, w8⟩ := hw
    rw [b4] at w5 w6
    exact ⟨r, F', B', r', Fm', Bm', e1, e2, w1, w2, w3, w4, w5, w6, w7, w8⟩
  · obtain ⟨rfl, rfl, y3, y4, y5, y6, y7, y8⟩ := y
    have hO2 := RO_t hO1 y3 y4
    have n3 := hO2.2.1
    have f2 := tkF_t t1 y3
    have g2 := tkG_t t2 y4
    have k6 : F2 8 o 6 = F2 0 0 1 := by rw [f2 8 o 6 (by first | decide | omega), f2 0 0 1 (by first | decide | omega)]; exact h6
    rw [if_pos (show r64 n by unfold r64; omega)]
    rcases y7 with ⟨g1, g16⟩ | ⟨x, x6⟩
    · obtain ⟨gm, rfl⟩ := y8 g1.2.1
      have ga := g1.2.2.1
      rw [L_good g1.2.1, zb_s, if_pos (show r32 1 by decide), if_neg (show ¬ (1 : Int) = 0 by decide), if_pos (show r64 n' by unfold r64; omega)]
      by_cases z : 6 ≤ n'
      · rw [if_pos (zcmp_o.mpr z), if_pos (zcmp_o.mpr z)]
        exact P_58 h0 ho hK hKm (by first | decide | omega) hO2 k6 f2 g2 (by unfold r32; omega) (Or.inl ⟨g1, g16⟩) (fun _ => ⟨rfl, z⟩)
      · have gq : F1 8 o 5 = 4 ∧ G1 14 0 89 = 4 := by
          rcases hq1 with ⟨g, _⟩ | ⟨x, _⟩
          · have := g.2.2.1; omega
          · have := x.2.1; omega
        have gx := RX_n (c := 3) (z := 4) g1 g16 (by first | decide | omega) (by first | decide | omega) (by first | decide | omega)
        have tf : tkF o F2 (zup3 F2 8 o 7 (3 + 16 * 4)) := fun c y k n => by rw [zup3_v, if_neg (by first | decide | omega)]
        have tg : tkG G2 (zup3 (zup3 G2 14 0 17 3) 14 0 18 4) := fun c y k n => by rw [zup3_v, if_neg (by first | decide | omega), zup3_v, if_neg (by first | decide | omega)]
        rw [if_neg (fun x => z (zcmp_o.mp x)), if_neg (fun x => z (zcmp_o.mp x)), gq.1, gq.2, C_ref ho g1.1, zb_s, L_fb g1.2.1, zb_s]
        refine P_58 h0 ho hK hKm (by first | decide | omega) (RO_t hO2 tf tg) (by rw [tf 8 o 6 (by first | decide | omega), tf 0 0 1 (by first | decide | omega)]; exact k6) (tkF_t f2 tf) (tkG_t g2 tg) ?_ (Or.inr ⟨gx, ?_⟩) (fun q => ?_)
        · rw [zup3_v, if_neg (by first | decide | omega), zup3_v, if_neg (by first | decide | omega)]; unfold r32; omega
        · rw [tf 8 o 6 (by first | decide | omega), tf 0 0 1 (by first | decide | omega)]; omega
        · have := gx.2.1.1; omega
    · have e9 : r32 (G2 14 0 89) := by have := x.2.2.2.2.2.2; unfold r32; omega
      rw [L_goodX x, zb_s, if_pos (show r32 0 by decide), if_pos (show (0 : Int) = 0 from rfl)]
      by_cases z : 0 ≤ zcmp n 6
      · rw [if_pos z]
        exact P_58 h0 ho hK hKm (by first | decide | omega) hO2 k6 f2 g2 e9 (Or.inr ⟨x, x6⟩) (fun q => by have := x.2.1.1; omega)
      · rw [if_neg z, C_refX ho x, zb_s]
        exact P_58 h0 ho hK hKm (by first | decide | omega) hO2 k6 f2 g2 e9 (Or.inr ⟨x, x6⟩) (fun q => by have := x.2.1.1; omega)
end
end
section
section
/-! ===== a file opened: what is kept of it ===== -/
theorem L_code {Km : Nat} {F : zF} {B : zB} (hK : 10 ≤ Km) : f_M_code Km 37 F B = some (1297379947, F, B) := by
  obtain ⟨m, e⟩ : ∃ m, Km = m + 1 + 1 + 1 + 1 + 1 := ⟨Km - 5, (by first | decide | omega)⟩
  have l37 : zsl 37 = 4 := by decide
  have g : f_M_code Km 37 F B = f_M_code_4 Km Km 0 0 37 F B := rfl
  have st : ∀ (j : Nat) (k w : Int), 0 ≤ k → k < 4 → f_M_code_4 Km (j + 1) k w 37 F B = if r32 (zsc 37 k) then f_M_code_4 Km j (k + 1) (zlor (zlshl w 8) (zsc 37 k)) 37 F B else none := fun j k w k0 k1 => by
    rw [f_M_code_4, if_pos (by decide), L_slen (by decide) (by decide), zb_s, if_pos (by unfold r32; omega), l37, if_pos (by decide), if_neg (by first | decide | omega), L_schar (by decide) k0 (by first | decide | omega) (by first | decide | omega), zb_s]
  have en : ∀ (j : Nat) (w : Int), f_M_code_4 Km (j + 1) 4 w 37 F B = some (w, F, B) := fun j w => by
    rw [f_M_code_4, if_pos (by decide), L_slen (by decide) (by decide), zb_s, if_pos (by decide), l37, if_pos (by decide), if_pos (by decide)]
  have s0 : zsc 37 0 = 77 := by decide
  have s1 : zsc 37 1 = 84 := by decide
  have s2 : zsc 37 2 = 114 := by decide
  have s3 : zsc 37 3 = 107 := by decide
  have go : ∀ j, f_M_code_4 Km (j + 1 + 1 + 1 + 1 + 1) 0 0 37 F B = some (1297379947, F, B) := fun j => by
    rw [st _ 0 0 (by decide) (by decide), s0, if_pos (by decide), zlor8 (by decide) (by decide) (by decide) (by decide), show (0 : Int) + 1 = 1 from rfl, st _ 1 _ (by decide) (by decide), s1, if_pos (by decide), zlor8 (by decide) (by decide) (by decide) (by decide), show (1 : Int) + 1 = 2 from rfl, st _ 2 _ (by decide) (by decide), s2, if_pos (by decide), zlor8 (by decide) (by decide) (by decide) (by decide), show (2 : Int) + 1 = 3 from rfl, st _ 3 _ (by decide) (by decide), s3, if_pos (by decide), zlor8 (by decide) (by decide) (by decide) (by decide), show (3 : Int) + 1 = 4 from rfl, en]
    rfl
  rw [g]
  have := go m
  rw [← e] at this
  exact this
theorem L_k45 {Km : Nat} {F : zF} (hc : 0 ≤ F 14 0 94 ∧ F 14 0 94 ≤ 400) : ∀ (d m : Nat) (i : Int) (B : zB), i + d = F 14 0 94 → 0 ≤ i → d < m → ∃ B', f_M_keep_45 Km m i F B = some (0, F, B') ∧ (∀ c y k x, ¬ (c = 14 ∧ y = 0 ∧ 75 ≤ k ∧ k ≤ 80 ∧ i ≤ x ∧ x < F 14 0 94) → B' c y k x = B c y k x) ∧ (∀ x, i ≤ x → x < F 14 0 94 → B' 14 0 75 x = B 14 0 82 x ∧ B' 14 0 76 x = B 14 0 83 x ∧ B' 14 0 77 x = B 14 0 84 x ∧ B' 14 0 78 x = B 14 0 85 x ∧ B' 14 0 79 x = B 14 0 86 x ∧ B' 14 0 80 x = B 14 0 87 x) := by
  intro d
  induction d with
  | zero =>
    intro m i B e i0 hm
    obtain ⟨p, rfl⟩ : ∃ p, m = p + 1 := ⟨m - 1, (by first | decide | omega)⟩
    refine ⟨B, ?_, fun _ _ _ _ _ => rfl, fun x _ _ => (by first | decide | omega)⟩
    rw [f_M_keep_45, if_pos (by unfold r32; omega), if_pos (by unfold r32; omega), if_pos (by first | decide | omega)]
  | succ d ih =>
    intro m i B e i0 hm
    obtain ⟨p, rfl⟩ : ∃ p, m = p + 1 := ⟨m - 1, (by first | decide | omega)⟩
    have e82 : ∀ (D : zB) (k : Nat) (v : Int) (j : Nat), 75 ≤ k → k ≤ 80 → 82 ≤ j → (zup4 D 14 0 k i v) 14 0 j i = D 14 0 j i := fun D k v j _ _ _ => by rw [zup4_v, if_neg (by first | decide | omega)]
    obtain ⟨B', e1, e2, e3⟩ := ih p (i + 1) (zup4 (zup4 (zup4 (zup4 (zup4 (zup4 B 14 0 75 i (B 14 0 82 i)) 14 0 76 i (B 14 0 83 i)) 14 0 77 i (B 14 0 84 i)) 14 0 78 i (B 14 0 85 i)) 14 0 79 i (B 14 0 86 i)) 14 0 80 i (B 14 0 87 i)) (by first | decide | omega) (by first | decide | omega) (by first | decide | omega)
    refine ⟨B', ?_, fun c y k x n => ?_, fun x x0 x1 => ?_⟩
    · rw [f_M_keep_45, if_pos (by unfold r32; omega), if_pos (by unfold r32; omega), if_neg (by first | decide | omega), if_pos (by first | decide | omega)]
      simp only [e82 _ 75 _ 83 (by decide) (by decide) (by decide), e82 _ 75 _ 84 (by decide) (by decide) (by decide), e82 _ 75 _ 85 (by decide) (by decide) (by decide), e82 _ 75 _ 86 (by decide) (by decide) (by decide), e82 _ 75 _ 87 (by decide) (by decide) (by decide), e82 _ 76 _ 84 (by decide) (by decide) (by decide), e82 _ 76 _ 85 (by decide) (by decide) (by decide), e82 _ 76 _ 86 (by decide) (by decide) (by decide), e82 _ 76 _ 87 (by decide) (by decide) (by decide), e82 _ 77 _ 85 (by decide) (by decide) (by decide), e82 _ 77 _ 86 (by decide) (by decide) (by decide), e82 _ 77 _ 87 (by decide) (by decide) (by decide), e82 _ 78 _ 86 (by decide) (by decide) (by decide), e82 _ 78 _ 87 (by decide) (by decide) (by decide), e82 _ 79 _ 87 (by decide) (by decide) (by decide)]
      exact e1
    · rw [e2 c y k x (by first | decide | omega)]
      rw [zup4_v, if_neg (by first | decide | omega), zup4_v, if_neg (by first | decide | omega), zup4_v, if_neg (by first | decide | omega), zup4_v, if_neg (by first | decide | omega), zup4_v, if_neg (by first | decide | omega), zup4_v, if_neg (by first | decide | omega)]
    · by_cases z : x = i
      · subst z
        rw [e2 14 0 75 x (by first | decide | omega), e2 14 0 76 x (by first | decide | omega), e2 14 0 77 x (by first | decide | omega), e2 14 0 78 x (by first | decide | omega), e2 14 0 79 x (by first | decide | omega), e2 14 0 80 x (by first | decide | omega)]
        simp [zup4_v]
      · obtain ⟨a1, a2, a3, a4, a5, a6⟩ := e3 x (by first | decide | omega) x1
        rw [a1, a2, a3, a4, a5, a6]
        simp [zup4_v]
theorem L_k7 {Km : Nat} {F : zF} (hKm : 500 ≤ Km) (hc : 0 ≤ F 14 0 94 ∧ F 14 0 94 ≤ 400) : ∀ (d m : Nat) (i : Int) (B : zB), i + d = 8 → 0 ≤ i → d < m → ∃ B', f_M_keep_7 Km m i F B = some (0, F, B') ∧ (∀ c y k x, ¬ (c = 14 ∧ y = 0 ∧ (k = 73 ∨ (75 ≤ k ∧ k ≤ 81))) → B' c y k x = B c y k x) ∧ (∀ x, 0 ≤ x → x < F 14 0 94 → B' 14 0 75 x = B 14 0 82 x ∧ B' 14 0 76 x = B 14 0 83 x ∧ B' 14 0 77 x = B 14 0 84 x ∧ B' 14 0 78 x = B 14 0 85 x ∧ B' 14 0 79 x = B 14 0 86 x ∧ B' 14 0 80 x = B 14 0 87 x) ∧ (∀ x, i ≤ x → x < 8 → B' 14 0 73 x = B 14 0 74 x ∧ B' 14 0 81 x = B 14 0 88 x) ∧ (∀ x, x < i → B' 14 0 73 x = B 14 0 73 x ∧ B' 14 0 81 x = B 14 0 81 x) := by
  intro d
  induction d with
  | zero =>
    intro m i B e i0 hm
    obtain ⟨p, rfl⟩ : ∃ p, m = p + 1 := ⟨m - 1, (by first | decide | omega)⟩
    obtain ⟨B', e1, e2, e3⟩ := L_k45 (Km := Km) hc (F 14 0 94).toNat Km 0 B (by first | decide | omega) (by first | decide | omega) (by first | decide | omega)
    refine ⟨B', ?_, fun c y k x n => e2 c y k x (by first | decide | omega), e3, fun x _ _ => (by first | decide | omega), fun x _ => ⟨e2 14 0 73 x (by first | decide | omega), e2 14 0 81 x (by first | decide | omega)⟩⟩
    rw [f_M_keep_7, if_pos (by unfold r32; omega), if_pos (by first | decide | omega)]
    exact e1
  | succ d ih =>
    intro m i B e i0 hm
    obtain ⟨p, rfl⟩ : ∃ p, m = p + 1 := ⟨m - 1, (by first | decide | omega)⟩
    have e88 : (zup4 B 14 0 73 i (B 14 0 74 i)) 14 0 88 i = B 14 0 88 i := by rw [zup4_v, if_neg (by first | decide | omega)]
    obtain ⟨B', e1, e2, e3, e4, e5⟩ := ih p (i + 1) (zup4 (zup4 B 14 0 73 i (B 14 0 74 i)) 14 0 81 i (B 14 0 88 i)) (by first | decide | omega) (by first | decide | omega) (by first | decide | omega)
    refine ⟨B', ?_, fun c y k x n => ?_, fun x x0 x1 => ?_, fun x x0 x1 => ?_, fun x x0 => ?_⟩
    · rw [f_M_keep_7, if_pos (by unfold r32; omega), if_neg (by first | decide | omega), if_pos (by first | decide | omega), e88]
      exact e1
    · rw [e2 c y k x n, zup4_v, if_neg (by first | decide | omega), zup4_v, if_neg (by first | decide | omega)]
    · obtain ⟨a1, a2, a3, a4, a5, a6⟩ := e3 x x0 x1
      rw [a1, a2, a3, a4, a5, a6]
      simp [zup4_v]
    · by_cases z : x = i
      · subst z
        obtain ⟨a1, a2⟩ := e5 x (by first | decide | omega)
        rw [a1, a2]
        simp [zup4_v]
      · obtain ⟨a1, a2⟩ := e4 x (by first | decide | omega) x1
        rw [a1, a2]
        simp [zup4_v]
    · obtain ⟨a1, a2⟩ := e5 x (by first | decide | omega)
      rw [a1, a2, zup4_v, if_neg (by first | decide | omega), zup4_v, if_neg (by first | decide | omega), zup4_v, if_neg (by first | decide | omega), zup4_v, if_neg (by first | decide | omega)]
      exact ⟨rfl, rfl⟩
/-- the file that is open, alike on both sides -/
def OPN (o : Int) (F : zF) (B : zB) (Bm : zB) : Prop := ((B 8 o 0 0 = Bm 14 0 73 0 ∧ 1 ≤ Bm 14 0 73 0 ∧ Bm 14 0 73 0 ≤ 8) ∧ (B 8 o 0 1 = Bm 14 0 73 1 ∧ 1 ≤ Bm 14 0 73 1 ∧ Bm 14 0 73 1 ≤ 960) ∧ (B 8 o 0 2 = Bm 14 0 73 2 ∧ -7 ≤ Bm 14 0 73 2 ∧ Bm 14 0 73 2 ≤ 7) ∧ (B 8 o 0 3 = Bm 14 0 73 3 ∧ 0 ≤ Bm 14 0 73 3 ∧ Bm 14 0 73 3 ≤ 1) ∧ (B 8 o 0 4 = Bm 14 0 73 4 ∧ 1 ≤ Bm 14 0 73 4 ∧ Bm 14 0 73 4 ≤ 12) ∧ (B 8 o 0 5 = Bm 14 0 73 5 ∧ (Bm 14 0 73 5 = 2 ∨ Bm 14 0 73 5 = 4 ∨ Bm 14 0 73 5 = 8 ∨ Bm 14 0 73 5 = 16)) ∧ (B 8 o 0 6 = Bm 14 0 73 6 ∧ 20 ≤ Bm 14 0 73 6 ∧ Bm 14 0 73 6 ≤ 300)) ∧ (F 8 o 2 = Bm 14 0 73 7 ∧ 0 ≤ F 8 o 2 ∧ F 8 o 2 ≤ 400) ∧ (∀ i, 0 ≤ i → i < F 8 o 2 → B 8 o 220 i = Bm 14 0 75 i ∧ B 8 o 221 i = Bm 14 0 76 i ∧ B 8 o 222 i = Bm 14 0 77 i ∧ B 8 o 223 i = Bm 14 0 78 i ∧ B 8 o 224 i = Bm 14 0 79 i ∧ B 8 o 225 i = Bm 14 0 80 i) ∧ (∀ i, 0 ≤ i → i < F 8 o 2 → (0 ≤ Bm 14 0 75 i ∧ Bm 14 0 75 i < Bm 14 0 73 0) ∧ (0 ≤ Bm 14 0 76 i ∧ Bm 14 0 76 i < 16) ∧ (0 ≤ Bm 14 0 77 i ∧ Bm 14 0 77 i < 128) ∧ (0 ≤ Bm 14 0 78 i ∧ Bm 14 0 78 i < 128) ∧ (0 ≤ Bm 14 0 79 i ∧ Bm 14 0 79 i ≤ 402921619456) ∧ (0 ≤ Bm 14 0 80 i ∧ Bm 14 0 80 i ≤ 402921619456)) ∧ (∀ i, 0 ≤ i → i + 1 < F 8 o 2 → Bm 14 0 75 i ≤ Bm 14 0 75 (i + 1) ∧ (Bm 14 0 75 i = Bm 14 0 75 (i + 1) → Bm 14 0 79 i ≤ Bm 14 0 79 (i + 1))) ∧ (∀ k, 0 ≤ k → k < Bm 14 0 73 0 → (-1 ≤ B 8 o 3 k ∧ B 8 o 3 k ≤ 3) ∧ Bm 14 0 81 k = if 0 ≤ B 8 o 3 k then B 8 o 3 k else 0)
/-- what opening leaves behind -/
def QL (o : Int) (q : zF × zB × zF × zB) : Int → zF → zB → Int → zF → zB → Prop := fun r F B r' Fm Bm => r' = r ∧ (0 ≤ r ∧ r ≤ 100000) ∧ ((∀ c y k, ¬ (c = 8 ∧ y = o) → F c y k = q.1 c y k) ∧ (∀ c y k x, ¬ (c = 8 ∧ y = o) → B c y k x = q.2.1 c y k x) ∧ (∀ c y k, ¬ (c = 14 ∧ y = 0 ∧ (k = 3 ∨ k = 17 ∨ k = 18 ∨ k = 72 ∨ (89 ≤ k ∧ k ≤ 94))) → Fm c y k = q.2.2.1 c y k) ∧ (∀ c y k x, ¬ (c = 14 ∧ y = 0 ∧ 73 ≤ k ∧ k ≤ 88) → Bm c y k x = q.2.2.2 c y k x)) ∧ Fm 14 0 3 = 0 ∧ ((r = 0 ∧ Fm 14 0 72 = 1 ∧ OPN o F B Bm) ∨ (¬ r = 0 ∧ Fm 14 0 72 = q.2.2.1 14 0 72 ∧ ∀ k x, k = 73 ∨ (75 ≤ k ∧ k ≤ 81) → Bm 14 0 k x = q.2.2.2 14 0 k x))
/-- the end, well -/
theorem P_okE {K : zK} {Km : Nat} {o tr : Int} {q : zF × zB × zF × zB} {F : zF} {B : zB} {Fm : zF} {Bm : zB} (ho : 0 ≤ o ∧ o < K.2 8) (hKm : 500 ≤ Km) (w : OW o q F B Fm Bm) (db : DB o tr F B Fm Bm) (g7 : F 8 o 7 = 0) (g17 : Fm 14 0 17 = 0) (ht : tr = Bm 14 0 74 0) : zP (f_SoundFile_load_169 K o F B) (f_M_open_198 Km Fm Bm) (QL o q) := by
  obtain ⟨sn, nu, hd⟩ := db
  obtain ⟨⟨h11, h12, h13, h14⟩, h2, h3, h4, h5, h6⟩ := sn
  obtain ⟨w1, w2, w3, w4, w5⟩ := w
  unfold HD at hd
  have z3 : ∀ c y k, ¬ (c = 14 ∧ y = 0 ∧ k = 3) → (zup3 Fm 14 0 3 0) c y k = Fm c y k := fun c y k n => by rw [zup3_v, if_neg n]
  have z74 : ∀ c y k x, ¬ (c = 14 ∧ y = 0 ∧ k = 74 ∧ x = 7) → (zup4 Bm 14 0 74 7 (Fm 14 0 94)) c y k x = Bm c y k x := fun c y k x n => by rw [zup4_v, if_neg n]
  have e94 : (zup3 (zup3 Fm 14 0 3 0) 14 0 72 1) 14 0 94 = Fm 14 0 94 := by rw [zup3_v, if_neg (by first | decide | omega), z3 14 0 94 (by first | decide | omega)]
  obtain ⟨B', e1, e2, e3, e4, e5⟩ := L_k7 (Km := Km) (F := zup3 (zup3 Fm 14 0 3 0) 14 0 72 1) hKm (by rw [e94]; omega) 8 Km 0 (zup4 Bm 14 0 74 7 (Fm 14 0 94)) (by first | decide | omega) (by first | decide | omega) (by first | decide | omega)
  have hr : f_M_open_198 Km Fm Bm = some (0, zup3 (zup3 Fm 14 0 3 0) 14 0 72 1, B') := by
    unfold f_M_open_198
    rw [L_good (by rw [z3 14 0 17 (by first | decide | omega)]; exact g17), zb_s, if_pos (show r32 1 by decide), if_neg (show ¬ (1 : Int) = 0 by decide), z3 14 0 94 (by first | decide | omega)]
    have e1' : f_M_keep Km (zup3 Fm 14 0 3 0) (zup4 Bm 14 0 74 7 (Fm 14 0 94)) = some (0, zup3 (zup3 Fm 14 0 3 0) 14 0 72 1, B') := e1
    rw [e1', zb_s]
  rw [hr]
  unfold f_SoundFile_load_169
  rw [if_pos ho, g7]
  have k73 : ∀ x, 0 ≤ x → x < 7 → B' 14 0 73 x = Bm 14 0 74 x := fun x x0 x1 => by rw [(e4 x x0 (by first | decide | omega)).1, z74 14 0 74 x (by first | decide | omega)]
  have k7 : B' 14 0 73 7 = Fm 14 0 94 := by rw [(e4 7 (by first | decide | omega) (by first | decide | omega)).1, zup4_v, if_pos (by first | decide | omega)]
  have k81 : ∀ x, 0 ≤ x → x < 8 → B' 14 0 81 x = Bm 14 0 88 x := fun x x0 x1 => by rw [(e4 x x0 (by first | decide | omega)).2, z74 14 0 88 x (by first | decide | omega)]
  have ks : ∀ x, 0 ≤ x → x < F 8 o 2 → B' 14 0 75 x = Bm 14 0 82 x ∧ B' 14 0 76 x = Bm 14 0 83 x ∧ B' 14 0 77 x = Bm 14 0 84 x ∧ B' 14 0 78 x = Bm 14 0 85 x ∧ B' 14 0 79 x = Bm 14 0 86 x ∧ B' 14 0 80 x = Bm 14 0 87 x := fun x x0 x1 => by
    have := e3 x x0 (by rw [e94]; omega)
    rw [z74 14 0 82 x (by first | decide | omega), z74 14 0 83 x (by first | decide | omega), z74 14 0 84 x (by first | decide | omega), z74 14 0 85 x (by first | decide | omega), z74 14 0 86 x (by first | decide | omega), z74 14 0 87 x (by first | decide | omega)] at this
    exact this
  refine P_some ⟨rfl, (by first | decide | omega), ⟨w2, w3, fun c y k n => ?_, fun c y k x n => ?_⟩, ?_, Or.inl ⟨rfl, ?_, ?_, ?_, fun i i0 i1 => ?_, fun i i0 i1 => ?_, fun i i0 i1 => ?_, fun k k0 k1 => ?_⟩⟩
  · rw [zup3_v, if_neg (by first | decide | omega), z3 c y k (by first | decide | omega)]; exact w4 c y k (by first | decide | omega)
  · rw [e2 c y k x (by first | decide | omega), z74 c y k x (by first | decide | omega)]; exact w5 c y k x (by first | decide | omega)
  · rw [zup3_v, if_neg (by first | decide | omega), zup3_v, if_pos (by first | decide | omega)]
  · rw [zup3_v, if_pos (by first | decide | omega)]
  · rw [k73 0 (by first | decide | omega) (by first | decide | omega), k73 1 (by first | decide | omega) (by first | decide | omega), k73 2 (by first | decide | omega) (by first | decide | omega), k73 3 (by first | decide | omega) (by first | decide | omega), k73 4 (by first | decide | omega) (by first | decide | omega), k73 5 (by first | decide | omega) (by first | decide | omega), k73 6 (by first | decide | omega) (by first | decide | omega)]
    omega
  · rw [k7]; omega
  · obtain ⟨a1, a2, a3, a4, a5, a6⟩ := ks i i0 i1
    rw [a1, a2, a3, a4, a5, a6]
    exact h2 i i0 i1
  · obtain ⟨a1, a2, a3, a4, a5, a6⟩ := ks i i0 i1
    rw [a1, a2, a3, a4, a5, a6, k73 0 (by first | decide | omega) (by first | decide | omega)]
    have := h3 i i0 i1
    have := h4 i i0 i1
    omega
  · rw [(ks i i0 (by first | decide | omega)).1, (ks (i + 1) (by first | decide | omega) i1).1, (ks i i0 (by first | decide | omega)).2.2.2.2.1, (ks (i + 1) (by first | decide | omega) i1).2.2.2.2.1]
    exact h6 i i0 i1
  · rw [k73 0 (by first | decide | omega) (by first | decide | omega)] at k1
    rw [k81 k k0 (by first | decide | omega)]
    obtain ⟨b1, b2, b3⟩ := nu k k0 (by first | decide | omega)
    exact ⟨b1, b2 (by first | decide | omega)⟩
/-- the end, with a fault -/
theorem P_okX {K : zK} {Km : Nat} {o : Int} {q : zF × zB × zF × zB} {F : zF} {B : zB} {Fm : zF} {Bm : zB} (ho : 0 ≤ o ∧ o < K.2 8) (w : OW o q F B Fm Bm) (x : RX o F Fm) : zP (f_SoundFile_load_169 K o F B) (f_M_open_198 Km Fm Bm) (QL o q) := by
  obtain ⟨w1, w2, w3, w4, w5⟩ := w
  have z3 : ∀ c y k, ¬ (c = 14 ∧ y = 0 ∧ k = 3) → (zup3 Fm 14 0 3 0) c y k = Fm c y k := fun c y k n => by rw [zup3_v, if_neg n]
  have x3 : RX o F (zup3 Fm 14 0 3 0) := RX_f x rfl rfl rfl (z3 14 0 17 (by first | decide | omega)) (z3 14 0 18 (by first | decide | omega)) (z3 14 0 89 (by first | decide | omega))
  unfold f_SoundFile_load_169 f_M_open_198
  rw [if_pos ho, L_goodX x3, zb_s, if_pos (show r32 0 by decide), if_pos (show (0 : Int) = 0 from rfl), z3 14 0 17 (by first | decide | omega), z3 14 0 18 (by first | decide | omega)]
  obtain ⟨x7, x17, x18, _⟩ := x
  refine P_some ⟨(by first | decide | omega), (by first | decide | omega), ⟨w2, w3, fun c y k n => ?_, fun c y k x n => w5 c y k x (by first | decide | omega)⟩, ?_, Or.inr ⟨(by first | decide | omega), ?_, fun k x n => w5 14 0 k x (by first | decide | omega)⟩⟩
  · rw [z3 c y k (by first | decide | omega)]; exact w4 c y k (by first | decide | omega)
  · rw [zup3_v, if_pos (by first | decide | omega)]
  · rw [z3 14 0 72 (by first | decide | omega)]; exact w4 14 0 72 (by first | decide | omega)
end
end
section
section
/-! ===== the chunks of a file, both sides ===== -/
theorem C_skp2 {K : zK} {o a n L : Int} {F : zF} {B : zB} (ho : 0 ≤ o ∧ o < K.2 8) (n0 : 0 ≤ n ∧ n ≤ 17179869184) (a1 : F 8 o 5 = a) (a0 : 0 ≤ a ∧ a ≤ 3000) (g7 : F 8 o 7 = 0) (l1 : F 8 o 6 = L) (l0 : 0 ≤ L ∧ L ≤ 3000) : f_SoundFile_skip K o n F B = some (0, if a + n ≤ L then zup3 F 8 o 5 (a + n) else zup3 F 8 o 7 (2 + 16 * L), B) := by
  unfold f_SoundFile_skip f_SoundFile_skip_46
  rw [if_pos ho, a1, l1, if_pos (show r32 a by unfold r32; omega), if_pos (show r32 L by unfold r32; omega), if_pos (show r64 (a + n) by unfold r64; omega), if_pos (show r64 L by unfold r64; omega), g7, if_pos (show r32 0 by decide), if_pos (show (0 : Int) = 0 from rfl)]
  by_cases z : a + n ≤ L
  · rw [if_pos (zcmp_m.mpr z), if_pos z]
  · rw [if_neg (fun x => z (zcmp_m.mp x)), if_neg z, C_ref ho g7, zb_s]
section
variable {K : zK} {Km : Nat} {o : Int} {q : zF × zB × zF × zB}
/-- behind a fault nothing more is read -/
theorem P_fx {m1 m2 : Nat} {n l1 tr to : Int} {F : zF} {B : zB} {Fm : zF} {Bm : zB} (h0 : 2 ≤ K.2 0) (ho : 0 ≤ o ∧ o < K.2 8) (tq : TQ q) (hn : 0 ≤ n ∧ n < 2000) (ht : -8589934592 ≤ to ∧ to ≤ 8589934592) (hl : -8589934592 ≤ l1 ∧ l1 ≤ 8589934592) (w : OW o q F B Fm Bm) (x : RX o F Fm) (x6 : F 8 o 6 ≤ F 0 0 1) : zP (f_SoundFile_load_143 (f_SoundFile_load_43 K (m1 + 1)) K to n o 0 F B) (f_M_open_176 (f_M_open_81 Km (m2 + 1)) Km l1 tr Fm Bm) (QL o q) := by
  have n3 := (RO_w tq w).2.1
  have x7 := x7_n x
  have xx := x
  obtain ⟨y7, y17, y18, y5, y6, y6'⟩ := xx
  have xw : RX o (zup3 F 8 o 6 (F 0 0 1)) Fm := by
    unfold RX
    simp only [zup3_v]
    simp
    omega
  have ww : OW o q (zup3 F 8 o 6 (F 0 0 1)) B Fm Bm := OW_x w (by rw [zup3_v, if_neg (by first | decide | omega)]) (fun c y k n => by rw [zup3_v, if_neg (by first | decide | omega)]) (fun _ _ _ _ _ => rfl) (fun _ _ _ _ => rfl) (fun _ _ _ _ _ => rfl)
  have e1 : f_SoundFile_load_143 (f_SoundFile_load_43 K (m1 + 1)) K to n o 0 F B = f_SoundFile_load_169 K o (zup3 F 8 o 6 (F 0 0 1)) B := by
    unfold f_SoundFile_load_143
    have x7' := x7_n xw
    rw [if_pos (by first | decide | omega), if_pos ho, if_pos (show r32 (F 8 o 5) by unfold r32; omega), C_skipX ho (by first | decide | omega) xw, zb_s, f_SoundFile_load_43, if_pos (show r32 (n + 1) by unfold r32; omega), if_neg (by first | decide | omega), if_pos ho, if_pos x7'.1, if_neg x7'.2]
  have e2 : f_M_open_176 (f_M_open_81 Km (m2 + 1)) Km l1 tr Fm Bm = f_M_open_198 Km Fm Bm := by
    have e3 : f_M_open_81 Km (m2 + 1) tr l1 Fm Bm = f_M_open_198 Km Fm Bm := by
      rw [f_M_open_81, L_goodX x, zb_s, if_pos (show r32 0 by decide), if_pos (show (0 : Int) = 0 from rfl)]
    unfold f_M_open_176 f_M_open_195
    rw [if_pos (show r32 (Fm 14 0 3) by unfold r32; omega), if_pos (show r64 l1 by unfold r64; omega), if_pos (show r64 (Fm 14 0 3) by unfold r64; omega), e3]
    have ef : f_M_failByte Km 2 (Fm 14 0 3) Fm Bm = some (0, Fm, Bm) := by
      unfold f_M_failByte
      rw [if_pos (show r32 (Fm 14 0 17) by unfold r32; omega), if_neg (by first | decide | omega)]
    rw [ef, zb_s, e3]
    by_cases z : zcmp l1 (Fm 14 0 3) ≤ 0
    · rw [if_pos z]
    · rw [if_neg z]
  rw [e1, e2]
  exact P_okX ho ww xw
/-- between chunks, all well -/
def LK (o : Int) (q : zF × zB × zF × zB) (tr l : Int) (F : zF) (B : zB) (Fm : zF) (Bm : zB) : Prop := OW o q F B Fm Bm ∧ DB o tr F B Fm Bm ∧ (F 8 o 7 = 0 ∧ Fm 14 0 17 = 0 ∧ F 8 o 5 = l ∧ 0 ≤ l ∧ l ≤ F 0 0 1) ∧ (F 8 o 8 = tr ∧ 0 ≤ tr ∧ tr ≤ Bm 14 0 74 0)
/-- the chunk at hand has been looked at -/
theorem P_nx {m1 m2 : Nat} {n l tr a b : Int} {F : zF} {B : zB} {Fm : zF} {Bm : zB} (h0 : 2 ≤ K.2 0) (ho : 0 ≤ o ∧ o < K.2 8) (tq : TQ q) (hn : 0 ≤ n ∧ n < 2000) (w : OW o q F B Fm Bm) (db : DB o tr F B Fm Bm) (g : F 8 o 7 = 0 ∧ Fm 14 0 17 = 0 ∧ F 8 o 5 = a ∧ 0 ≤ a ∧ a ≤ 3000) (g8 : F 8 o 8 = tr ∧ 0 ≤ tr ∧ tr ≤ Bm 14 0 74 0) (ha : a ≤ l ∧ l ≤ 8589934592) (h89 : Fm 14 0 89 = b ∧ 0 ≤ b ∧ b ≤ 3000) (ih : ∀ F B Fm Bm, LK o q tr l F B Fm Bm → zP (f_SoundFile_load_43 K (m1 + 1) (n + 1) o 0 F B) (f_M_open_81 Km (m2 + 1) tr l Fm Bm) (QL o q)) : zP (f_SoundFile_load_143 (f_SoundFile_load_43 K (m1 + 1)) K l n o 0 F B) (f_M_open_176 (f_M_open_81 Km (m2 + 1)) Km l tr Fm Bm) (QL o q) := by
  have n3 := (RO_w tq w).2.1
  obtain ⟨g7, g17, g5, a0⟩ := g
  have f6 : ∀ k, k ≠ 6 → (zup3 F 8 o 6 (F 0 0 1)) 8 o k = F 8 o k := fun k n => by rw [zup3_v, if_neg (by first | decide | omega)]
  have v6 : (zup3 F 8 o 6 (F 0 0 1)) 8 o 6 = F 0 0 1 := by rw [zup3_v, if_pos (by first | decide | omega)]
  have f01 : (zup3 F 8 o 6 (F 0 0 1)) 0 0 1 = F 0 0 1 := by rw [zup3_v, if_neg (by first | decide | omega)]
  unfold f_SoundFile_load_143 f_M_open_176 f_M_open_195
  rw [if_pos (by first | decide | omega), if_pos ho, g5, if_pos (show r32 a by unfold r32; omega), C_skp2 (a := a) (L := F 0 0 1) ho (by first | decide | omega) (by rw [f6 5 (by decide)]; exact g5) a0 (by rw [f6 7 (by decide)]; exact g7) v6 (by first | decide | omega), zb_s, show a + (l - a) = l by omega, if_pos (show r32 (Fm 14 0 3) by unfold r32; omega), if_pos (show r64 l by unfold r64; omega), if_pos (show r64 (Fm 14 0 3) by unfold r64; omega)]
  by_cases z : l ≤ F 0 0 1
  · rw [if_pos z, if_pos (zcmp_m.mpr (by first | decide | omega))]
    have fa : ∀ k, k ≠ 6 → k ≠ 5 → (zup3 (zup3 F 8 o 6 (F 0 0 1)) 8 o 5 l) 8 o k = F 8 o k := fun k n n' => by rw [zup3_v, if_neg (by first | decide | omega), f6 k n]
    refine ih _ _ _ _ ⟨?_, ⟨?_, db.2.1, ?_⟩, ⟨by rw [fa 7 (by decide) (by decide)]; exact g7, g17, by rw [zup3_v, if_pos (by first | decide | omega)], (by first | decide | omega), by rw [zup3_v, if_neg (by first | decide | omega), f01]; exact z⟩, by rw [fa 8 (by decide) (by decide)]; exact g8⟩
    · exact OW_x w (by rw [fa 4 (by decide) (by decide)]) (fun c y k n => by rw [zup3_v, if_neg (by first | decide | omega), zup3_v, if_neg (by first | decide | omega)]) (fun _ _ _ _ _ => rfl) (fun _ _ _ _ => rfl) (fun _ _ _ _ _ => rfl)
    · rw [fa 2 (by decide) (by decide)]
      exact SND_f db.1 (by first | decide | omega) (fa 2 (by decide) (by decide)) rfl (fun _ _ _ _ => rfl) (fun _ _ _ _ => rfl)
    · exact HD_x db.2.2 (fun k k0 k1 => fa k (by first | decide | omega) (by first | decide | omega)) (fun _ => rfl) (fun _ _ _ => rfl) (fun _ => rfl)
  · rw [if_neg z, if_neg (fun x => by have := zcmp_m.mp x; omega), L_fb g17, zb_s]
    have fa : ∀ k, k ≠ 6 → k ≠ 7 → (zup3 (zup3 F 8 o 6 (F 0 0 1)) 8 o 7 (2 + 16 * F 0 0 1)) 8 o k = F 8 o k := fun k n n' => by rw [zup3_v, if_neg (by first | decide | omega), f6 k n]
    have x : RX o (zup3 (zup3 F 8 o 6 (F 0 0 1)) 8 o 7 (2 + 16 * F 0 0 1)) (zup3 (zup3 Fm 14 0 17 2) 14 0 18 (Fm 14 0 3)) := by
      unfold RX
      simp only [zup3_v]
      simp
      omega
    have ww : OW o q (zup3 (zup3 F 8 o 6 (F 0 0 1)) 8 o 7 (2 + 16 * F 0 0 1)) B (zup3 (zup3 Fm 14 0 17 2) 14 0 18 (Fm 14 0 3)) Bm := OW_x w (by rw [fa 4 (by decide) (by decide)]) (fun c y k n => by rw [zup3_v, if_neg (by first | decide | omega), zup3_v, if_neg (by first | decide | omega)]) (fun _ _ _ _ _ => rfl) (fun c y k n => by rw [zup3_v, if_neg (by first | decide | omega), zup3_v, if_neg (by first | decide | omega)]) (fun _ _ _ _ _ => rfl)
    have x7 := x7_n x
    rw [f_SoundFile_load_43, if_pos (show r32 (n + 1) by unfold r32; omega), if_neg (by first | decide | omega), if_pos ho, if_pos x7.1, if_neg x7.2, f_M_open_81, L_goodX x, zb_s, if_pos (show r32 0 by decide), if_pos (show (0 : Int) = 0 from rfl)]
    exact P_okX ho ww x
theorem P_w4 {a : Int} {F : zF} {B : zB} {Fm : zF} {Bm : zB} (h0 : 2 ≤ K.2 0) (ho : 0 ≤ o ∧ o < K.2 8) (hK : 10 ≤ K.1) (hKm : 10 ≤ Km) (hO : RO o F B Fm Bm) (hQ : RQo o a F Fm) : zP (f_SoundFile_takeWide K o 4 F B) (f_M_whole Km 4 Fm Bm) (fun r F' B' r' Fm' Bm' => B' = B ∧ Bm' = Bm ∧ tkF o F F' ∧ tkG Fm Fm' ∧ (0 ≤ r ∧ r ≤ 4294967295) ∧ (0 ≤ r' ∧ r' ≤ 4294967295) ∧ RQo o (a + 4) F' Fm' ∧ (Fm' 14 0 17 = 0 → Fm 14 0 17 = 0 ∧ r' = r)) := by
  have b4 : bwn (0 + 4) = 4294967295 := by decide
  obtain ⟨r, F', B', r', Fm', Bm', e1, e2, w1, w2, w3, w4, w5, w6, w7, w8⟩ := P_wide (Km := Km) (o := o) (l := 4) h0 ho 4 0 K.1 Km a 0 0 F B Fm Bm (by first | decide | omega) (by first | decide | omega) (by first | decide | omega) (by first | decide | omega) (by decide) (by decide) (fun _ => rfl) hO hQ
  rw [b4] at w5 w6
  exact ⟨r, F', B', r', Fm', Bm', e1, e2, w1, w2, w3, w4, w5, w6, w7, w8⟩
theorem P_ll (h0 : 2 ≤ K.2 0) (ho : 0 ≤ o ∧ o < K.2 8) (hK : 4000 ≤ K.1) (hKm : 4000 ≤ Km) (tq : TQ q) : ∀ (d m1 m2 : Nat) (n tr l : Int) (F : zF) (B : zB) (Fm : zF) (Bm : zB), 3008 ≤ l + d → d < m1 → d < m2 → 0 ≤ n → 8 * n ≤ l → LK o q tr l F B Fm Bm → zP (f_SoundFile_load_43 K m1 n o 0 F B) (f_M_open_81 Km m2 tr l Fm Bm) (QL o q) := by
  intro d
  induction d with
  | zero =>
    intro m1 m2 n tr l F B Fm Bm hd l1 l2 n0 nl h
    have n3 := (RO_w tq h.1).2.1
    have := h.2.2.1
    omega
  | succ d ih =>
    intro m1 m2 n tr l F B Fm Bm hd l1 l2 n0 nl h
    obtain ⟨w, db, ⟨g7, g17, g5, l0, ls⟩, ⟨g8, t0, t1⟩⟩ := h
    have n3 := (RO_w tq w).2.1
    have hh := db.2.2
    unfold HD at hh
    have b0 : B 8 o 0 0 = Bm 14 0 74 0 ∧ 1 ≤ Bm 14 0 74 0 ∧ Bm 14 0 74 0 ≤ 8 := by omega
    obtain ⟨p, rfl⟩ : ∃ p, m1 = p + 1 := ⟨m1 - 1, (by first | decide | omega)⟩
    obtain ⟨r, rfl⟩ : ∃ p, m2 = p + 1 := ⟨m2 - 1, (by first | decide | omega)⟩
    rw [f_SoundFile_load_43, if_pos (show r32 n by unfold r32; omega), if_neg (show ¬ 3000 ≤ n by omega), if_pos ho, g7, if_pos (show r32 0 by decide), if_pos (show (0 : Int) = 0 from rfl), g8, if_pos (show r32 tr by unfold r32; omega), b0.1, if_pos (show r32 (Bm 14 0 74 0) by unfold r32; omega), f_M_open_81, L_good g17, zb_s, if_pos (show r32 1 by decide), if_neg (show ¬ (1 : Int) = 0 by decide), if_pos (show r32 tr by unfold r32; omega), if_pos (show r32 (Bm 14 0 74 0) by unfold r32; omega)]
    by_cases z : Bm 14 0 74 0 ≤ tr
    · rw [if_pos z, if_pos z]
      exact P_okE ho (by first | decide | omega) w db g7 g17 (by first | decide | omega)
    · rw [if_neg z, if_neg z, if_pos (show (0 : Int) ≤ 0 ∧ (0 : Int) < K.2 0 by omega), if_pos (show r32 (Fm 14 0 3) by unfold r32; omega), if_pos (show r64 l by unfold r64; omega), if_pos (show r64 (Fm 14 0 3) by unfold r64; omega)]
      have es : (if 0 ≤ zcmp l (Fm 14 0 3) then f_M_open_118 (f_M_open_81 Km r) Km tr (Fm 14 0 3) Fm Bm else f_M_open_118 (f_M_open_81 Km r) Km tr l Fm Bm) = f_M_open_118 (f_M_open_81 Km r) Km tr l Fm Bm := by
        by_cases v : Fm 14 0 3 ≤ l
        · rw [if_pos (zcmp_o.mpr v), show Fm 14 0 3 = l by omega]
        · rw [if_neg (fun x => v (zcmp_o.mp x))]
      rw [es]
      unfold f_M_open_118 f_M_isTrack
      rw [if_pos (show r32 l by unfold r32; omega), zb_a2]
      have f6 : ∀ k, k ≠ 6 → (zup3 F 8 o 6 (F 0 0 1)) 8 o k = F 8 o k := fun k n => by rw [zup3_v, if_neg (by first | decide | omega)]
      have v6 : (zup3 F 8 o 6 (F 0 0 1)) 8 o 6 = F 0 0 1 := by rw [zup3_v, if_pos (by first | decide | omega)]
      have w1 : OW o q (zup3 F 8 o 6 (F 0 0 1)) B (zup3 (zup3 Fm 14 0 89 l) 14 0 90 3000) Bm := OW_x w (f6 4 (by decide)) (fun c y k n => by rw [zup3_v, if_neg (by first | decide | omega)]) (fun _ _ _ _ _ => rfl) (fun c y k n => by rw [zup3_v, if_neg (by first | decide | omega), zup3_v, if_neg (by first | decide | omega)]) (fun _ _ _ _ _ => rfl)
      have g1 : RG o l (zup3 F 8 o 6 (F 0 0 1)) (zup3 (zup3 Fm 14 0 89 l) 14 0 90 3000) := by
        unfold RG
        simp only [zup3_v]
        simp
        omega
      refine P_bind (P_w4 (Km := Km) h0 ho (by first | decide | omega) (by first | decide | omega) (RO_w tq w1) (Or.inl ⟨g1, by rw [v6]; omega⟩)) (fun s F2 B2 s' G2 D2 y => ?_)
      obtain ⟨rfl, rfl, y3, y4, y5, y6, y7, y8⟩ := y
      have w2 := OW_t w1 y3 y4
      rw [L_code (by first | decide | omega), zb_s, if_pos (show r64 s' by unfold r64; omega), if_pos (show r64 1297379947 by decide)]
      unfold f_M_isTrack_22
      rw [if_pos (show (1 : Int) = 0 ∨ (1 : Int) = 1 from Or.inr rfl), if_pos (show (0 : Int) = 0 ∨ (0 : Int) = 1 from Or.inl rfl)]
      have eb : (zbind (if zcmp s' 1297379947 = 0 then some (1, G2, D2) else some (0, G2, D2)) (fun r27 F27 B27 => zbind (f_M_whole Km 4 F27 B27) (fun r28 F28 B28 => if r32 (F28 14 0 89) then zbind (f_M_good Km F28 B28) (fun r30 F30 B30 => if r32 r30 then (if r30 = 0 then f_M_open_176 (f_M_open_81 Km r) Km ((F28 14 0 89) + r28) tr F30 B30 else if r32 r27 then (if r27 = 0 then f_M_open_176 (f_M_open_81 Km r) Km ((F28 14 0 89) + r28) tr F30 B30 else zbind (f_M_track0 Km tr (zup3 F30 14 0 90 ((F28 14 0 89) + r28)) B30) (fun r37 F37 B37 => f_M_open_176 (f_M_open_81 Km r) Km ((F28 14 0 89) + r28) (tr + 1) F37 B37)) else none) else none) else none))) = (zbind (f_M_whole Km 4 G2 D2) (fun r28 F28 B28 => if r32 (F28 14 0 89) then zbind (f_M_good Km F28 B28) (fun r30 F30 B30 => if r32 r30 then (if r30 = 0 then f_M_open_176 (f_M_open_81 Km r) Km ((F28 14 0 89) + r28) tr F30 B30 else (if ¬ s' = 1297379947 then f_M_open_176 (f_M_open_81 Km r) Km ((F28 14 0 89) + r28) tr F30 B30 else zbind (f_M_track0 Km tr (zup3 F30 14 0 90 ((F28 14 0 89) + r28)) B30) (fun r37 F37 B37 => f_M_open_176 (f_M_open_81 Km r) Km ((F28 14 0 89) + r28) (tr + 1) F37 B37))) else none) else none)) := by
        by_cases v : s' = 1297379947
        · rw [if_pos (zcmp_0.mpr v), zb_s]
          simp only [if_pos (show r32 1 by decide), if_neg (show ¬ (1 : Int) = 0 by decide), if_neg (show ¬ ¬ s' = 1297379947 from fun h => h v)]
        · rw [if_neg (fun x => v (zcmp_0.mp x)), zb_s]
          simp only [if_pos (show r32 0 by decide), if_pos (show ¬ s' = 1297379947 from v), ↓reduceIte]
      rw [eb]
      refine P_bind (P_w4 (Km := Km) h0 ho (by first | decide | omega) (by first | decide | omega) (RO_w tq w2) y7) (fun u F3 B3 u' G3 D3 y => ?_)
      obtain ⟨rfl, rfl, z3, z4, z5, z6, z7, z8⟩ := y
      have w3 := OW_t w2 z3 z4
      have f3 := tkF_t y3 z3
      have g3 := tkG_t y4 z4
      have e01 : F3 0 0 1 = F 0 0 1 := by rw [f3 0 0 1 (by first | decide | omega), zup3_v, if_neg (by first | decide | omega)]
      obtain ⟨p', rfl⟩ : ∃ x, p = x + 1 := ⟨p - 1, (by first | decide | omega)⟩
      obtain ⟨r', rfl⟩ : ∃ x, r = x + 1 := ⟨r - 1, (by first | decide | omega)⟩
      rcases z7 with ⟨g, g6⟩ | ⟨x, x6⟩
      · obtain ⟨m2', rfl⟩ := z8 g.2.1
        obtain ⟨_, rfl⟩ := y8 m2'
        have ga := g.2.2.1
        have fk : ∀ k, k ≠ 5 → k ≠ 6 → k ≠ 7 → F3 8 o k = F 8 o k := fun k a b c => by rw [f3 8 o k (by first | decide | omega), f6 k b]
        have gk : ∀ k, ¬ (k = 17 ∨ k = 18 ∨ k = 89 ∨ k = 90) → G3 14 0 k = Fm 14 0 k := fun k n => by rw [g3 14 0 k (by first | decide | omega), zup3_v, if_neg (by first | decide | omega), zup3_v, if_neg (by first | decide | omega)]
        have sn3 : SND o (F 8 o 2) tr 0 F3 B3 G3 D3 := SND_f db.1 (by first | decide | omega) (fk 2 (by decide) (by decide) (by decide)) (gk 94 (by decide)) (fun _ _ _ _ => rfl) (fun _ _ _ _ => rfl)
        have hd3 : HD o F3 B3 G3 D3 := HD_x db.2.2 (fun k k0 k1 => fk k (by first | decide | omega) (by first | decide | omega) (by first | decide | omega)) (fun _ => rfl) (fun k k0 k1 => gk k (by first | decide | omega)) (fun _ => rfl)
        have db3 : DB o tr F3 B3 G3 D3 := ⟨by rw [fk 2 (by decide) (by decide) (by decide)]; exact sn3, db.2.1, hd3⟩
        rw [ga.1, ga.2.1, if_pos (show r32 (l + 4 + 4) by unfold r32; omega), g.1, if_pos (show r32 0 by decide), if_pos (show (0 : Int) = 0 from rfl), if_pos (show r64 s' by unfold r64; omega), if_pos (show r32 (l + 4 + 4) by unfold r32; omega), L_good g.2.1, zb_s, if_pos (show r32 1 by decide), if_neg (show ¬ (1 : Int) = 0 by decide), show u' + (l + 4 + 4) = l + 4 + 4 + u' by omega]
        have F38 : F3 8 o 8 = tr := by rw [fk 8 (by decide) (by decide) (by decide)]; exact g8
        by_cases v : s' = 1297379947
        · rw [if_pos (zcmp_0.mpr v), if_neg (show ¬ ¬ s' = 1297379947 from fun h => h v), e01, if_pos (show r32 (F 0 0 1) by unfold r32; omega), if_pos (show r64 (l + 4 + 4 + u') by unfold r64; omega), if_pos (show r64 (F 0 0 1) by unfold r64; omega)]
          have s1 := db3.1.1
          have zm : zmin (l + 4 + 4 + u') (F 0 0 1) ≤ l + 4 + 4 + u' ∧ zmin (l + 4 + 4 + u') (F 0 0 1) ≤ F 0 0 1 ∧ (zmin (l + 4 + 4 + u') (F 0 0 1) = l + 4 + 4 + u' ∨ zmin (l + 4 + 4 + u') (F 0 0 1) = F 0 0 1) := by unfold zmin; split <;> omega
          have g3' := gk 3 (by decide)
          have gle := g.2.2.2.2
          have gt : RG o (l + 4 + 4) (zup3 F3 8 o 6 (zmin (l + 4 + 4 + u') (F 0 0 1))) (zup3 G3 14 0 90 (l + 4 + 4 + u')) := by
            have q7 := g.1
            have q17 := g.2.1
            unfold RG
            simp only [zup3_v]
            simp
            omega
          have wt : OW o q (zup3 F3 8 o 6 (zmin (l + 4 + 4 + u') (F 0 0 1))) B3 (zup3 G3 14 0 90 (l + 4 + 4 + u')) D3 := OW_x w3 (by rw [zup3_v, if_neg (by first | decide | omega)]) (fun c y k n => by rw [zup3_v, if_neg (by first | decide | omega)]) (fun _ _ _ _ _ => rfl) (fun c y k n => by rw [zup3_v, if_neg (by first | decide | omega)]) (fun _ _ _ _ _ => rfl)
          have h6 : 0 ≤ (zup3 F3 8 o 6 (zmin (l + 4 + 4 + u') (F 0 0 1))) 8 o 6 := by rw [zup3_v, if_pos (by first | decide | omega)]; omega
          have dbt : DB o tr (zup3 F3 8 o 6 (zmin (l + 4 + 4 + u') (F 0 0 1))) B3 (zup3 G3 14 0 90 (l + 4 + 4 + u')) D3 := ⟨by rw [zup3_v, if_neg (by first | decide | omega)]; exact SND_f db3.1 (by first | decide | omega) (by rw [zup3_v, if_neg (by first | decide | omega)]) (by rw [zup3_v, if_neg (by first | decide | omega)]) (fun _ _ _ _ => rfl) (fun _ _ _ _ => rfl), db.2.1, HD_x hd3 (fun k k0 k1 => by rw [zup3_v, if_neg (by first | decide | omega)]) (fun _ => rfl) (fun k k0 k1 => by rw [zup3_v, if_neg (by first | decide | omega)]) (fun _ => rfl)⟩
          refine P_bind (P_track (Km := Km) h0 ho hK hKm (by first | decide | omega) (by first | decide | omega) tq wt dbt gt h6 (by rw [zup3_v, if_pos (by first | decide | omega)]) (by rw [zup3_v, if_neg (by first | decide | omega)]; exact F38)) (fun c F4 B4 c' G4 D4 y => ?_)
          obtain ⟨w4, y⟩ := y
          rcases y with ⟨a4, g4, g46, e90, e84, db4⟩ | ⟨x4, x46⟩
          · have ga4 := g4.2.2.1
            have gl4 := g4.2.2.2.2
            have hh4 := db4.2.2
            unfold HD at hh4
            have s14 := db4.1.1
            rw [e84]
            have k8 : ∀ k, k ≠ 8 → (zup3 F4 8 o 8 (tr + 1)) 8 o k = F4 8 o k := fun k n => by rw [zup3_v, if_neg (by first | decide | omega)]
            have w5 : OW o q (zup3 F4 8 o 8 (tr + 1)) B4 G4 D4 := OW_x w4 (k8 4 (by decide)) (fun c y k n => by rw [zup3_v, if_neg (by first | decide | omega)]) (fun _ _ _ _ _ => rfl) (fun _ _ _ _ => rfl) (fun _ _ _ _ _ => rfl)
            have db5 : DB o (tr + 1) (zup3 F4 8 o 8 (tr + 1)) B4 G4 D4 := ⟨by rw [k8 2 (by decide)]; exact SND_f db4.1 (by first | decide | omega) (k8 2 (by decide)) rfl (fun _ _ _ _ => rfl) (fun _ _ _ _ => rfl), db4.2.1, HD_x db4.2.2 (fun k k0 k1 => k8 k (by first | decide | omega)) (fun _ => rfl) (fun _ _ _ => rfl) (fun _ => rfl)⟩
            have m74 : tr + 1 ≤ D4 14 0 74 0 := by
              have a1 := w4.2.2.2.2 14 0 74 0 (by first | decide | omega)
              have a2 := w.2.2.2.2 14 0 74 0 (by first | decide | omega)
              omega
            exact P_nx (a := a4) (b := a4) h0 ho tq (by first | decide | omega) w5 db5 ⟨by rw [k8 7 (by decide)]; exact g4.1, g4.2.1, by rw [k8 5 (by decide)]; exact ga4.1, ga4.2.2.1, ga4.2.2.2⟩ ⟨by rw [zup3_v, if_pos (by first | decide | omega)], (by first | decide | omega), m74⟩ (by first | decide | omega) ⟨ga4.2.1, ga4.2.2⟩ (fun F B Fm Bm hk => ih (p' + 1) (r' + 1) (n + 1) (tr + 1) (l + 4 + 4 + u') F B Fm Bm (by first | decide | omega) (by first | decide | omega) (by first | decide | omega) (by first | decide | omega) (by first | decide | omega) hk)
          · have k8 : ∀ k, k ≠ 8 → (zup3 F4 8 o 8 (F4 8 o 8 + 1)) 8 o k = F4 8 o k := fun k n => by rw [zup3_v, if_neg (by first | decide | omega)]
            exact P_fx h0 ho tq (by first | decide | omega) (by first | decide | omega) (by first | decide | omega) (OW_x w4 (k8 4 (by decide)) (fun c y k n => by rw [zup3_v, if_neg (by first | decide | omega)]) (fun _ _ _ _ _ => rfl) (fun _ _ _ _ => rfl) (fun _ _ _ _ _ => rfl)) (RX_f x4 (k8 5 (by decide)) (k8 6 (by decide)) (k8 7 (by decide)) rfl rfl rfl) (by rw [k8 6 (by decide), zup3_v, if_neg (by first | decide | omega)]; exact x46)
        · rw [if_neg (fun x => v (zcmp_0.mp x)), if_pos v]
          exact P_nx (a := l + 4 + 4) (b := l + 4 + 4) h0 ho tq (by first | decide | omega) w3 db3 ⟨g.1, g.2.1, ga.1, ga.2.2.1, ga.2.2.2⟩ ⟨F38, t0, t1⟩ (by first | decide | omega) ⟨ga.2.1, ga.2.2⟩ (fun F B Fm Bm hk => ih (p' + 1) (r' + 1) (n + 1) tr (l + 4 + 4 + u') F B Fm Bm (by first | decide | omega) (by first | decide | omega) (by first | decide | omega) (by first | decide | omega) (by first | decide | omega) hk)
      · have x7 := x7_n x
        have xx := x
        obtain ⟨_, _, _, q5, _, _, q89⟩ := xx
        rw [if_pos (show r32 (F3 8 o 5) by unfold r32; omega), if_pos x7.1, if_neg x7.2, if_pos (show r32 (G3 14 0 89) by unfold r32; omega), L_goodX x, zb_s, if_pos (show r32 0 by decide), if_pos (show (0 : Int) = 0 from rfl)]
        exact P_fx h0 ho tq (by first | decide | omega) (by first | decide | omega) (by first | decide | omega) w3 x x6
end
end
end
section
section
/-! ===== a file opened whole, both sides ===== -/
theorem C_sd68 {K : zK} {o : Int} {F : zF} (ho : 0 ≤ o ∧ o < K.2 8) : ∀ (d m : Nat) (i : Int) (B : zB), i + d = 8 → 0 ≤ i → d < m → ∃ B', f_SoundFile_setDefaults_68 K m i o F B = some (0, F, B') ∧ (∀ c y k x, ¬ (c = 8 ∧ y = o ∧ k = 3) → B' c y k x = B c y k x) ∧ (∀ x, i ≤ x → x < 8 → B' 8 o 3 x = -1) ∧ (∀ x, x < i → B' 8 o 3 x = B 8 o 3 x) := by
  intro d
  induction d with
  | zero =>
    intro m i B e i0 hm
    obtain ⟨p, rfl⟩ : ∃ p, m = p + 1 := ⟨m - 1, (by first | decide | omega)⟩
    refine ⟨B, ?_, fun _ _ _ _ _ => rfl, fun x _ _ => (by first | decide | omega), fun _ _ => rfl⟩
    rw [f_SoundFile_setDefaults_68, if_pos (by unfold r32; omega), if_pos (by first | decide | omega)]
  | succ d ih =>
    intro m i B e i0 hm
    obtain ⟨p, rfl⟩ : ∃ p, m = p + 1 := ⟨m - 1, (by first | decide | omega)⟩
    obtain ⟨B', e1, e2, e3, e4⟩ := ih p (i + 1) (zup4 B 8 o 3 i (-1)) (by first | decide | omega) (by first | decide | omega) (by first | decide | omega)
    refine ⟨B', ?_, fun c y k x n => ?_, fun x x0 x1 => ?_, fun x x0 => ?_⟩
    · rw [f_SoundFile_setDefaults_68, if_pos (by unfold r32; omega), if_neg (by first | decide | omega), if_pos ho, if_pos (by first | decide | omega)]
      exact e1
    · rw [e2 c y k x n, zup4_v, if_neg (by first | decide | omega)]
    · by_cases z : x = i
      · rw [e4 x (by first | decide | omega), zup4_v, if_pos (by first | decide | omega)]
      · exact e3 x (by first | decide | omega) x1
    · rw [e4 x (by first | decide | omega), zup4_v, if_neg (by first | decide | omega)]
/-- the reference at a file's end: a fault there -/
theorem L_nxF {Km : Nat} {F : zF} {B : zB} (h : F 14 0 17 = 2) : f_M_next Km F B = some (0, F, B) := by
  have e : f_M_good Km F B = some (0, F, B) := by
    unfold f_M_good f_M_good_12
    rw [h, if_pos (by decide), if_neg (by decide), if_pos (by decide)]
  unfold f_M_next
  rw [e, zb_s, if_pos (by decide), if_pos rfl]
theorem L_w5 {Km m : Nat} {k v : Int} {F : zF} {B : zB} (hk : 0 ≤ k ∧ k < 4) (G : zF) (e : f_M_next Km F B = some (0, G, B)) : f_M_whole_5 Km (m + 1) k 0 4 F B = f_M_whole_5 Km m (k + 1) 0 4 G B := by
  rw [f_M_whole_5, if_pos (by unfold r32; omega), if_pos (by decide), if_neg (by first | decide | omega), e, zb_s, if_pos (by decide), zlor8 (by decide) (by decide) (by decide) (by decide)]
  rfl
theorem L_wE {Km : Nat} {F : zF} {B : zB} (hK : 10 ≤ Km) (G : zF) (e : f_M_next Km F B = some (0, G, B)) (h : G 14 0 17 = 2) : f_M_whole Km 4 F B = some (0, G, B) := by
  obtain ⟨m, em⟩ : ∃ m, Km = m + 1 + 1 + 1 + 1 + 1 := ⟨Km - 5, (by first | decide | omega)⟩
  have e5 : ∀ j, f_M_whole_5 Km (j + 1) 4 0 4 G B = some (0, G, B) := fun j => by
    rw [f_M_whole_5, if_pos (by decide), if_pos (by decide), if_pos (by decide)]
  have go : ∀ j, f_M_whole_5 Km (j + 1 + 1 + 1 + 1 + 1) 0 0 4 F B = some (0, G, B) := fun j => by
    rw [L_w5 (v := 0) (by decide) G e, L_w5 (v := 0) (by decide) G (L_nxF h), L_w5 (v := 0) (by decide) G (L_nxF h), L_w5 (v := 0) (by decide) G (L_nxF h)]
    exact e5 j
  have g : f_M_whole Km 4 F B = f_M_whole_5 Km Km 0 0 4 F B := rfl
  rw [g]
  have := go m
  rw [← em] at this
  exact this
/-- the head says more than there is: the reference finds it at the first chunk -/
theorem P_late {K : zK} {Km : Nat} {o l : Int} {q : zF × zB × zF × zB} {F : zF} {B : zB} {Fm : zF} {Bm : zB} (h0 : 2 ≤ K.2 0) (ho : 0 ≤ o ∧ o < K.2 8) (hK : 4000 ≤ K.1) (hKm : 4000 ≤ Km) (tq : TQ q) (w : OW o q F B Fm Bm) (g7 : F 8 o 7 = 2 + 16 * F 0 0 1) (g17 : Fm 14 0 17 = 0) (hl : F 0 0 1 < l ∧ l ≤ 17179869184) (h74 : 1 ≤ Bm 14 0 74 0 ∧ Bm 14 0 74 0 ≤ 8) (x5 : (0 ≤ F 8 o 5 ∧ F 8 o 5 ≤ 3000) ∧ F 8 o 6 ≤ 3000 ∧ -1 ≤ F 8 o 6) : zP (f_SoundFile_load_43 K K.1 0 o 0 F B) (f_M_open_81 Km Km 0 l Fm Bm) (QL o q) := by
  have n3 := (RO_w tq w).2.1
  obtain ⟨m, em⟩ : ∃ m, K.1 = m + 1 := ⟨K.1 - 1, (by first | decide | omega)⟩
  obtain ⟨r, er⟩ : ∃ m, Km = m + 1 + 1 := ⟨Km - 2, (by first | decide | omega)⟩
  have ec : ∀ j, f_SoundFile_load_43 K (j + 1) 0 o 0 F B = f_SoundFile_load_169 K o F B := fun j => by
    rw [f_SoundFile_load_43, if_pos (by decide), if_neg (by decide), if_pos ho, if_pos (show r32 (F 8 o 7) by unfold r32; omega), if_neg (by first | decide | omega)]
  have hs : GSm (Fm 14 0 3) (Fm 14 0 3) (zup3 (zup3 Fm 14 0 89 (Fm 14 0 3)) 14 0 90 3000) := by
    unfold GSm
    simp only [zup3_v]
    simp
    omega
  have e1 := L_nxE (Km := Km) (Bm := Bm) hs (by first | decide | omega)
  generalize hG : zup3 (zup3 (zup3 (zup3 Fm 14 0 89 (Fm 14 0 3)) 14 0 90 3000) 14 0 17 2) 14 0 18 (Fm 14 0 3) = G at e1
  have k17 : G 14 0 17 = 2 := by rw [← hG, zup3_v, if_neg (by first | decide | omega), zup3_v, if_pos (by first | decide | omega)]
  have k18 : G 14 0 18 = Fm 14 0 3 := by rw [← hG, zup3_v, if_pos (by first | decide | omega)]
  have k89 : G 14 0 89 = Fm 14 0 3 := by rw [← hG, zup3_v, if_neg (by first | decide | omega), zup3_v, if_neg (by first | decide | omega), zup3_v, if_neg (by first | decide | omega), zup3_v, if_pos (by first | decide | omega)]
  have k3 : G 14 0 3 = Fm 14 0 3 := by rw [← hG, zup3_v, if_neg (by first | decide | omega), zup3_v, if_neg (by first | decide | omega), zup3_v, if_neg (by first | decide | omega), zup3_v, if_neg (by first | decide | omega)]
  have kn : ∀ c y k, ¬ (c = 14 ∧ y = 0 ∧ (k = 17 ∨ k = 18 ∨ k = 89 ∨ k = 90)) → G c y k = Fm c y k := fun c y k n => by rw [← hG, zup3_v, if_neg (by first | decide | omega), zup3_v, if_neg (by first | decide | omega), zup3_v, if_neg (by first | decide | omega), zup3_v, if_neg (by first | decide | omega)]
  have e2 := L_wE (by first | decide | omega) G e1 k17
  have e3 := L_wE (Km := Km) (B := Bm) (by first | decide | omega) G (L_nxF k17) k17
  have x : RX o F G := by
    unfold RX
    rw [k17, k18, k89]
    omega
  have e4 : ∀ j, f_M_open_81 Km (j + 1 + 1) 0 l Fm Bm = f_M_open_198 Km G Bm := fun j => by
    have e5 : f_M_open_81 Km (j + 1) 0 (Fm 14 0 3 + 0) G Bm = f_M_open_198 Km G Bm := by
      rw [f_M_open_81, L_goodX x, zb_s, if_pos (show r32 0 by decide), if_pos (show (0 : Int) = 0 from rfl)]
    rw [f_M_open_81, L_good g17, zb_s, if_pos (show r32 1 by decide), if_neg (show ¬ (1 : Int) = 0 by decide), if_pos (show r32 0 by decide), if_pos (show r32 (Bm 14 0 74 0) by unfold r32; omega), if_neg (by first | decide | omega), if_pos (show r32 (Fm 14 0 3) by unfold r32; omega), if_pos (show r64 l by unfold r64; omega), if_pos (show r64 (Fm 14 0 3) by unfold r64; omega), if_pos (zcmp_o.mpr (by first | decide | omega))]
    unfold f_M_open_118 f_M_isTrack f_M_isTrack_22
    rw [if_pos (show r32 (Fm 14 0 3) by unfold r32; omega), e2, zb_s, L_code (by first | decide | omega), zb_s, if_pos (show r64 0 by decide), if_pos (show r64 1297379947 by decide), if_neg (show ¬ zcmp 0 1297379947 = 0 from fun h => by have := zcmp_0.mp h; omega), if_pos (show (0 : Int) = 0 ∨ (0 : Int) = 1 from Or.inl rfl), zb_s, e3, zb_s, k89, if_pos (show r32 (Fm 14 0 3) by unfold r32; omega), L_goodX x, zb_s, if_pos (show r32 0 by decide), if_pos (show (0 : Int) = 0 from rfl)]
    unfold f_M_open_176 f_M_open_195
    rw [k3, if_pos (show r32 (Fm 14 0 3) by unfold r32; omega), if_pos (show r64 (Fm 14 0 3 + 0) by unfold r64; omega), if_pos (show r64 (Fm 14 0 3) by unfold r64; omega), if_pos (zcmp_m.mpr (by first | decide | omega)), e5]
  have ec' := ec m
  have e4' := e4 r
  rw [← em] at ec'
  rw [← er] at e4'
  rw [ec', e4']
  exact P_okX ho (OW_x w rfl (fun _ _ _ _ => rfl) (fun _ _ _ _ _ => rfl) (fun c y k n => kn c y k (by first | decide | omega)) (fun _ _ _ _ _ => rfl)) x
theorem P_ld {K : zK} {Km : Nat} {o : Int} {F : zF} {B : zB} {Fm : zF} {Bm : zB} (h0 : 2 ≤ K.2 0) (ho : 0 ≤ o ∧ o < K.2 8) (hK : 4000 ≤ K.1) (hKm : 4000 ≤ Km) (hT : IT F B Fm Bm) : zP (f_SoundFile_load K o 0 F B) (f_M_open Km Fm Bm) (QL o (F, B, Fm, Bm)) := by
  obtain ⟨t1, t2, t3, t4, t5⟩ := hT
  unfold f_SoundFile_load f_M_open f_SoundFile_setDefaults
  rw [if_pos ho, if_pos (show (0 : Int) ≤ 0 ∧ (0 : Int) < K.2 0 by omega), if_pos (show (0 : Int) < K.2 0 by omega), if_pos ho]
  generalize hF1 : zup3 (zup3 (zup3 (zup3 (zup3 (zup3 (zup3 (zup3 F 8 o 4 0) 8 o 5 0) 8 o 6 (F 0 0 1)) 8 o 7 0) 8 o 2 0) 8 o 12 0) 8 o 13 0) 8 o 14 0 = F1
  generalize hB1 : zup4 (zup4 (zup4 (zup4 (zup4 (zup4 (zup4 B 8 o 0 0 0) 8 o 0 1 0) 8 o 0 2 0) 8 o 0 3 0) 8 o 0 4 4) 8 o 0 5 4) 8 o 0 6 120 = B1
  generalize hG1 : zup3 (zup3 (zup3 (zup3 (zup3 (zup3 (zup3 Fm 14 0 17 0) 14 0 89 0) 14 0 90 3000) 14 0 94 0) 14 0 91 0) 14 0 92 0) 14 0 93 0 = G1
  generalize hD1 : zup4 (zup4 (zup4 (zup4 (zup4 Bm 14 0 74 2 0) 14 0 74 3 0) 14 0 74 4 4) 14 0 74 5 4) 14 0 74 6 120 = D1
  have fF : ∀ c y k, ¬ (c = 8 ∧ y = o) → F1 c y k = F c y k := fun c y k n => by rw [← hF1]; rw [zup3_v, if_neg (by first | decide | omega), zup3_v, if_neg (by first | decide | omega), zup3_v, if_neg (by first | decide | omega), zup3_v, if_neg (by first | decide | omega), zup3_v, if_neg (by first | decide | omega), zup3_v, if_neg (by first | decide | omega), zup3_v, if_neg (by first | decide | omega), zup3_v, if_neg (by first | decide | omega)]
  have vF : F1 8 o 4 = 0 ∧ F1 8 o 5 = 0 ∧ F1 8 o 6 = F 0 0 1 ∧ F1 8 o 7 = 0 ∧ F1 8 o 2 = 0 ∧ F1 8 o 12 = 0 ∧ F1 8 o 13 = 0 ∧ F1 8 o 14 = 0 := by rw [← hF1]; simp [zup3_v]
  have fB : ∀ c y k x, ¬ (c = 8 ∧ y = o ∧ k = 0) → B1 c y k x = B c y k x := fun c y k x n => by rw [← hB1]; rw [zup4_v, if_neg (by first | decide | omega), zup4_v, if_neg (by first | decide | omega), zup4_v, if_neg (by first | decide | omega), zup4_v, if_neg (by first | decide | omega), zup4_v, if_neg (by first | decide | omega), zup4_v, if_neg (by first | decide | omega), zup4_v, if_neg (by first | decide | omega)]
  have vB : B1 8 o 0 2 = 0 ∧ B1 8 o 0 3 = 0 ∧ B1 8 o 0 4 = 4 ∧ B1 8 o 0 5 = 4 ∧ B1 8 o 0 6 = 120 := by rw [← hB1]; simp [zup4_v]
  have fG : ∀ c y k, ¬ (c = 14 ∧ y = 0 ∧ (k = 17 ∨ (89 ≤ k ∧ k ≤ 94))) → G1 c y k = Fm c y k := fun c y k n => by rw [← hG1]; rw [zup3_v, if_neg (by first | decide | omega), zup3_v, if_neg (by first | decide | omega), zup3_v, if_neg (by first | decide | omega), zup3_v, if_neg (by first | decide | omega), zup3_v, if_neg (by first | decide | omega), zup3_v, if_neg (by first | decide | omega), zup3_v, if_neg (by first | decide | omega)]
  have vG : G1 14 0 17 = 0 ∧ G1 14 0 89 = 0 ∧ G1 14 0 90 = 3000 ∧ G1 14 0 94 = 0 ∧ G1 14 0 91 = 0 ∧ G1 14 0 92 = 0 ∧ G1 14 0 93 = 0 := by rw [← hG1]; simp [zup3_v]
  have fD : ∀ c y k x, ¬ (c = 14 ∧ y = 0 ∧ k = 74) → D1 c y k x = Bm c y k x := fun c y k x n => by rw [← hD1]; rw [zup4_v, if_neg (by first | decide | omega), zup4_v, if_neg (by first | decide | omega), zup4_v, if_neg (by first | decide | omega), zup4_v, if_neg (by first | decide | omega), zup4_v, if_neg (by first | decide | omega)]
  have vD : D1 14 0 74 2 = 0 ∧ D1 14 0 74 3 = 0 ∧ D1 14 0 74 4 = 4 ∧ D1 14 0 74 5 = 4 ∧ D1 14 0 74 6 = 120 := by rw [← hD1]; simp [zup4_v]
  obtain ⟨B2, e1, e2, e3, _⟩ := C_sd68 (F := F1) ho 8 K.1 0 B1 (by first | decide | omega) (by first | decide | omega) (by first | decide | omega)
  rw [e1, zb_s]
  have b01 : F1 0 0 1 = F 0 0 1 := fF 0 0 1 (by first | decide | omega)
  have g03 : G1 14 0 3 = Fm 14 0 3 := fG 14 0 3 (by first | decide | omega)
  have hO : RO o F1 B2 G1 D1 := by
    refine ⟨vF.1, by rw [b01, g03]; exact ⟨t1, t2, t3⟩, fun y => by rw [e2 0 0 0 y (by first | decide | omega), fB 0 0 0 y (by first | decide | omega)]; exact t4 y, ?_⟩
    funext y
    show D1 14 0 2 y % 256 = _
    rw [fD 14 0 2 y (by first | decide | omega), e2 0 0 0 y (by first | decide | omega), fB 0 0 0 y (by first | decide | omega), ← t5]
    rfl
  have hG : RG o 0 F1 G1 := by
    unfold RG
    rw [g03]
    omega
  refine P_bind (P_lh (Km := Km) h0 ho (by first | decide | omega) (by first | decide | omega) hO (by rw [b01]; omega) hG (by first | decide | omega)) (fun r F3 B3 l G3 D3 y => ?_)
  obtain ⟨⟨k1, k2, k3, k4⟩, y⟩ := y
  have hO3 : RO o F3 B3 G3 D3 := by
    obtain ⟨o1, o2, o3, o4⟩ := hO
    refine ⟨by rw [k1 8 o 4 (by first | decide | omega)]; exact o1, by rw [k1 0 0 1 (by first | decide | omega), k2 14 0 3 (by first | decide | omega)]; exact o2, fun y => by rw [k3 0 0 0 y (by first | decide | omega)]; exact o3 y, ?_⟩
    funext y
    show D3 14 0 2 y % 256 = _
    rw [k4 14 0 2 y (by first | decide | omega), k3 0 0 0 y (by first | decide | omega)]
    exact congrFun o4 y
  have z8 : ∀ k, k ≠ 8 → (zup3 F3 8 o 8 0) 8 o k = F3 8 o k := fun k n => by rw [zup3_v, if_neg (by first | decide | omega)]
  have z01 : (zup3 F3 8 o 8 0) 0 0 1 = F3 0 0 1 := by rw [zup3_v, if_neg (by first | decide | omega)]
  have tq : TQ (zup3 F3 8 o 8 0, B3, G3, D3) := by
    refine ⟨?_, hO3.2.2.1, hO3.2.2.2⟩
    show (zup3 F3 8 o 8 0) 0 0 1 = G3 14 0 3 ∧ 0 ≤ (zup3 F3 8 o 8 0) 0 0 1 ∧ (zup3 F3 8 o 8 0) 0 0 1 ≤ 3000
    rw [z01]
    exact hO3.2.1
  have n3 := hO3.2.1
  have w : OW o (zup3 F3 8 o 8 0, B3, G3, D3) (zup3 F3 8 o 8 0) B3 G3 D3 := ⟨by rw [z8 4 (by decide)]; exact hO3.1, fun _ _ _ _ => rfl, fun _ _ _ _ _ => rfl, fun _ _ _ _ => rfl, fun _ _ _ _ _ => rfl⟩
  have key : zP (f_SoundFile_load_43 K K.1 0 o 0 (zup3 F3 8 o 8 0) B3) (f_M_open_81 Km Km 0 l G3 D3) (QL o (zup3 F3 8 o 8 0, B3, G3, D3)) := by
    rcases y with ⟨⟨m17, l0, l1⟩, hh, y⟩ | ⟨x, x6⟩
    · rcases y with ⟨g7, g5, gl⟩ | ⟨g7, gl, gz⟩
      · refine P_ll h0 ho hK hKm tq 3008 K.1 Km 0 0 l _ B3 G3 D3 (by first | decide | omega) (by first | decide | omega) (by first | decide | omega) (by first | decide | omega) (by first | decide | omega) ⟨w, ⟨?_, fun k k0 k1' => ?_, ?_⟩, ⟨by rw [z8 7 (by decide)]; exact g7, m17, by rw [z8 5 (by decide)]; exact g5, l0, by rw [z01]; exact gl⟩, ⟨by rw [zup3_v, if_pos (by first | decide | omega)], (by first | decide | omega), (by first | decide | omega)⟩⟩
        · have c0 : (zup3 F3 8 o 8 0) 8 o 2 = 0 := by rw [z8 2 (by decide), k1 8 o 2 (by first | decide | omega)]; exact vF.2.2.2.2.1
          have c1 : G3 14 0 94 = 0 := by rw [k2 14 0 94 (by first | decide | omega)]; exact vG.2.2.2.1
          unfold SND
          rw [c0, c1]
          exact ⟨(by first | decide | omega), fun i _ _ => (by first | decide | omega), fun i _ _ => (by first | decide | omega), fun i _ _ => (by first | decide | omega), fun i _ _ => (by first | decide | omega), fun i _ _ => (by first | decide | omega)⟩
        · have v : B3 8 o 3 k = -1 := by rw [k3 8 o 3 k (by first | decide | omega)]; exact e3 k k0 k1'
          rw [v]
          exact ⟨(by first | decide | omega), fun _ => (by first | decide | omega), fun _ => rfl⟩
        · unfold HD
          rw [z8 12 (by decide), z8 13 (by decide), z8 14 (by decide), k1 8 o 12 (by first | decide | omega), k1 8 o 13 (by first | decide | omega), k1 8 o 14 (by first | decide | omega), k2 14 0 91 (by first | decide | omega), k2 14 0 92 (by first | decide | omega), k2 14 0 93 (by first | decide | omega), k3 8 o 0 2 (by first | decide | omega), k3 8 o 0 3 (by first | decide | omega), k3 8 o 0 4 (by first | decide | omega), k3 8 o 0 5 (by first | decide | omega), k3 8 o 0 6 (by first | decide | omega), e2 8 o 0 2 (by first | decide | omega), e2 8 o 0 3 (by first | decide | omega), e2 8 o 0 4 (by first | decide | omega), e2 8 o 0 5 (by first | decide | omega), e2 8 o 0 6 (by first | decide | omega), k4 14 0 74 2 (by first | decide | omega), k4 14 0 74 3 (by first | decide | omega), k4 14 0 74 4 (by first | decide | omega), k4 14 0 74 5 (by first | decide | omega), k4 14 0 74 6 (by first | decide | omega)]
          omega
      · exact P_late h0 ho hK hKm tq w (by rw [z8 7 (by decide), z01]; exact g7) m17 (by rw [z01]; omega) (by first | decide | omega) (by rw [z8 5 (by decide), z8 6 (by decide), k1 8 o 6 (by first | decide | omega)]; omega)
    · have x' : RX o (zup3 F3 8 o 8 0) G3 := RX_f x (z8 5 (by decide)) (z8 6 (by decide)) (z8 7 (by decide)) rfl rfl rfl
      have x7 := x7_n x'
      obtain ⟨m, em⟩ : ∃ m, K.1 = m + 1 := ⟨K.1 - 1, (by first | decide | omega)⟩
      obtain ⟨r, er⟩ : ∃ m, Km = m + 1 := ⟨Km - 1, (by first | decide | omega)⟩
      have ec : ∀ j, f_SoundFile_load_43 K (j + 1) 0 o 0 (zup3 F3 8 o 8 0) B3 = f_SoundFile_load_169 K o (zup3 F3 8 o 8 0) B3 := fun j => by
        rw [f_SoundFile_load_43, if_pos (by decide), if_neg (by decide), if_pos ho, if_pos x7.1, if_neg x7.2]
      have e5 : ∀ j, f_M_open_81 Km (j + 1) 0 l G3 D3 = f_M_open_198 Km G3 D3 := fun j => by
        rw [f_M_open_81, L_goodX x', zb_s, if_pos (show r32 0 by decide), if_pos (show (0 : Int) = 0 from rfl)]
      have ec' := ec m
      have e5' := e5 r
      rw [← em] at ec'
      rw [← er] at e5'
      rw [ec', e5']
      exact P_okX ho w x'
  obtain ⟨r, F5, B5, r', G5, D5, u1, u2, u3, u4, ⟨v1, v2, v3, v4⟩, u5, u6⟩ := key
  refine ⟨r, F5, B5, r', G5, D5, u1, u2, u3, u4, ⟨fun c y k n => ?_, fun c y k x n => ?_, fun c y k n => ?_, fun c y k x n => ?_⟩, u5, ?_⟩
  · rw [v1 c y k n]
    show (zup3 F3 8 o 8 0) c y k = F c y k
    rw [zup3_v, if_neg (by first | decide | omega), k1 c y k (by first | decide | omega), fF c y k n]
  · rw [v2 c y k x n]
    show B3 c y k x = B c y k x
    rw [k3 c y k x (by first | decide | omega), e2 c y k x (by first | decide | omega), fB c y k x (by first | decide | omega)]
  · rw [v3 c y k n]
    show G3 c y k = Fm c y k
    rw [k2 c y k (by first | decide | omega), fG c y k (by first | decide | omega)]
  · rw [v4 c y k x n]
    show D3 c y k x = Bm c y k x
    rw [k4 c y k x (by first | decide | omega), fD c y k x (by first | decide | omega)]
  · rcases u6 with u6 | ⟨s1, s2, s3⟩
    · exact Or.inl u6
    · refine Or.inr ⟨s1, ?_, fun k x n => ?_⟩
      · rw [s2]
        show G3 14 0 72 = Fm 14 0 72
        rw [k2 14 0 72 (by first | decide | omega), fG 14 0 72 (by first | decide | omega)]
      · rw [s3 k x n]
        show D3 14 0 k x = Bm 14 0 k x
        rw [k4 14 0 k x (by first | decide | omega), fD 14 0 k x (by first | decide | omega)]
end
end
section
section
/-! ===== the call of open, both sides ===== -/
theorem OPN_f {o : Int} {F F' : zF} {B B' : zB} {Bm Bm' : zB} (h : OPN o F B Bm) (f : F' 8 o 2 = F 8 o 2) (b : ∀ k x, B' 8 o k x = B 8 o k x) (m : ∀ k x, k = 73 ∨ (75 ≤ k ∧ k ≤ 81) → Bm' 14 0 k x = Bm 14 0 k x) : OPN o F' B' Bm' := by
  obtain ⟨h1, h2, h3, h4, h5, h6⟩ := h
  have m73 : ∀ x, Bm' 14 0 73 x = Bm 14 0 73 x := fun x => m 73 x (by first | decide | omega)
  refine ⟨?_, ?_, fun i i0 i1 => ?_, fun i i0 i1 => ?_, fun i i0 i1 => ?_, fun k k0 k1 => ?_⟩
  · simp only [b, m73]; exact h1
  · rw [f, m73]; exact h2
  · rw [f] at i1
    rw [b, b, b, b, b, b, m 75 i (by first | decide | omega), m 76 i (by first | decide | omega), m 77 i (by first | decide | omega), m 78 i (by first | decide | omega), m 79 i (by first | decide | omega), m 80 i (by first | decide | omega)]; exact h3 i i0 i1
  · rw [f] at i1
    rw [m73, m 75 i (by first | decide | omega), m 76 i (by first | decide | omega), m 77 i (by first | decide | omega), m 78 i (by first | decide | omega), m 79 i (by first | decide | omega), m 80 i (by first | decide | omega)]; exact h4 i i0 i1
  · rw [f] at i1
    rw [m 75 i (by first | decide | omega), m 79 i (by first | decide | omega), m 75 (i + 1) (by first | decide | omega), m 79 (i + 1) (by first | decide | omega)]; exact h5 i i0 i1
  · rw [m73] at k1
    rw [b, m 81 k (by first | decide | omega)]; exact h6 k k0 k1
/-- the file that is open and the spare one -/
def IOp (K : zK) (F : zF) (B : zB) (Fm : zF) (Bm : zB) : Prop := (F 12 0 9 < K.2 8 ∧ F 12 0 8 < K.2 8) ∧ (0 ≤ F 12 0 9 → ¬ F 12 0 9 = F 12 0 8) ∧ ((F 12 0 9 < 0 ∧ F 12 0 8 < 0 ∧ K.2 8 = 0) ∨ (F 12 0 9 < 0 ∧ 0 ≤ F 12 0 8 ∧ K.2 8 = 1) ∨ (0 ≤ F 12 0 9 ∧ F 12 0 8 < 0 ∧ K.2 8 = 1) ∨ (0 ≤ F 12 0 9 ∧ 0 ≤ F 12 0 8 ∧ K.2 8 = 2)) ∧ ((F 12 0 8 < 0 ∧ Fm 14 0 72 = 0) ∨ (0 ≤ F 12 0 8 ∧ Fm 14 0 72 = 1 ∧ OPN (F 12 0 8) F B Bm))
def opF (F F' : zF) : Prop := ∀ c y k, ¬ (c = 8 ∨ (c = 0 ∧ y = 0 ∧ 1 ≤ k ∧ k ≤ 2) ∨ (c = 12 ∧ y = 0 ∧ 8 ≤ k ∧ k ≤ 9)) → F' c y k = F c y k
def opB (B B' : zB) : Prop := ∀ c y k x, ¬ c = 8 → B' c y k x = B c y k x
def opG (F F' : zF) : Prop := ∀ c y k, ¬ (c = 14 ∧ y = 0 ∧ (k = 3 ∨ k = 17 ∨ k = 18 ∨ k = 72 ∨ (89 ≤ k ∧ k ≤ 94))) → F' c y k = F c y k
def opH (B B' : zB) : Prop := ∀ c y k x, ¬ (c = 14 ∧ y = 0 ∧ 73 ≤ k ∧ k ≤ 88) → B' c y k x = B c y k x
theorem P_o18 {K : zK} {Km : Nat} {o : Int} {F : zF} {B : zB} {Fm : zF} {Bm : zB} (h0 : 2 ≤ K.2 0) (h12 : 0 < K.2 12) (hK : 4000 ≤ K.1) (hKm : 4000 ≤ Km) (f0 : F 12 0 0 = 0) (e9 : F 12 0 9 = o) (ho : 0 ≤ o ∧ o < K.2 8) (hT : IT F B Fm Bm) (hI : IOp K F B Fm Bm) : ∃ r F' B' Fm' Bm', f_S_open_18 K 0 F B = some (r, F', B', K) ∧ f_M_open Km Fm Bm = some (r, Fm', Bm') ∧ (0 ≤ r ∧ r ≤ 100000) ∧ opF F F' ∧ opB B B' ∧ opG Fm Fm' ∧ opH Bm Bm' ∧ IT F' B' Fm' Bm' ∧ IOp K F' B' Fm' Bm' := by
  obtain ⟨r, F1, B1, r', G1, D1, u1, u2, rfl, u4, ⟨v1, v2, v3, v4⟩, u5, u6⟩ := P_ld (Km := Km) h0 ho hK hKm hT
  obtain ⟨t1, t2, t3, t4, t5⟩ := hT
  obtain ⟨⟨i1, i2⟩, i3, i4, i5⟩ := hI
  rw [e9] at i1 i3 i4
  have c0 : F1 12 0 0 = 0 := by rw [v1 12 0 0 (by first | decide | omega)]; exact f0
  have c8 : F1 12 0 8 = F 12 0 8 := v1 12 0 8 (by first | decide | omega)
  have c9 : F1 12 0 9 = o := by rw [v1 12 0 9 (by first | decide | omega)]; exact e9
  have k : ∀ c y k, ¬ (c = 0 ∧ y = 0 ∧ 1 ≤ k ∧ k ≤ 2) → (zup3 (zup3 F1 0 0 1 0) 0 0 2 0) c y k = F1 c y k := fun c y k n => by rw [zup3_v, if_neg (by first | decide | omega), zup3_v, if_neg (by first | decide | omega)]
  have ec : f_ByteRow_clear K 0 F1 B1 = some (0, zup3 (zup3 F1 0 0 1 0) 0 0 2 0, B1) := by
    unfold f_ByteRow_clear
    rw [if_pos (by first | decide | omega)]
  unfold f_S_open_18
  rw [if_pos ⟨(by first | decide | omega), h12⟩, e9, if_pos ho, f0, if_pos (by first | decide | omega), u1, zbN_s]
  have hB : B1 0 0 0 = B 0 0 0 := by funext x; exact v2 0 0 0 x (by first | decide | omega)
  have hD : tmB D1 = tmB Bm := by
    funext y
    show D1 14 0 2 y % 256 = Bm 14 0 2 y % 256
    rw [v4 14 0 2 y (by first | decide | omega)]
  by_cases z : r' = 0
  · subst z
    refine ⟨0, zup3 (zup3 (zup3 (zup3 F1 0 0 1 0) 0 0 2 0) 12 0 8 o) 12 0 9 (F 12 0 8), B1, G1, D1, ?_, u2, (by first | decide | omega), fun c y k n => ?_, fun c y k x n => v2 c y k x (by first | decide | omega), v3, v4, ?_, ?_⟩
    · rw [c0, if_pos (by first | decide | omega), ec, zbN_s, if_pos (by decide), if_pos rfl, k 12 0 9 (by first | decide | omega), k 12 0 8 (by first | decide | omega), c9, c8, if_pos ho.2, if_pos i2]
    · rw [zup3_v, if_neg (by first | decide | omega), zup3_v, if_neg (by first | decide | omega), zup3_v, if_neg (by first | decide | omega), zup3_v, if_neg (by first | decide | omega)]
      exact v1 c y k (by first | decide | omega)
    · refine ⟨?_, ?_, ?_, fun y => by rw [hB]; exact t4 y, by rw [hD, hB]; exact t5⟩
      · rw [u5]; simp [zup3_v]
      · simp [zup3_v]
      · simp [zup3_v]
    · have e9' : (zup3 (zup3 (zup3 (zup3 F1 0 0 1 0) 0 0 2 0) 12 0 8 o) 12 0 9 (F 12 0 8)) 12 0 9 = F 12 0 8 := by rw [zup3_v, if_pos (by first | decide | omega)]
      have e8' : (zup3 (zup3 (zup3 (zup3 F1 0 0 1 0) 0 0 2 0) 12 0 8 o) 12 0 9 (F 12 0 8)) 12 0 8 = o := by rw [zup3_v, if_neg (by first | decide | omega), zup3_v, if_pos (by first | decide | omega)]
      unfold IOp
      rw [e9', e8']
      rcases u6 with ⟨_, m72, op⟩ | ⟨n, _⟩
      · refine ⟨⟨i2, ho.2⟩, fun _ => (by first | decide | omega), (by first | decide | omega), Or.inr ⟨ho.1, m72, OPN_f op ?_ (fun _ _ => rfl) (fun _ _ _ => rfl)⟩⟩
        rw [zup3_v, if_neg (by first | decide | omega), zup3_v, if_neg (by first | decide | omega), zup3_v, if_neg (by first | decide | omega), zup3_v, if_neg (by first | decide | omega)]
      · exact absurd rfl n
  · refine ⟨r', zup3 (zup3 F1 0 0 1 0) 0 0 2 0, B1, G1, D1, ?_, u2, u4, fun c y k n => ?_, fun c y k x n => v2 c y k x (by first | decide | omega), v3, v4, ?_, ?_⟩
    · rw [c0, if_pos (by first | decide | omega), ec, zbN_s, if_pos (by unfold r32; omega), if_neg z]
    · rw [zup3_v, if_neg (by first | decide | omega), zup3_v, if_neg (by first | decide | omega)]
      exact v1 c y k (by first | decide | omega)
    · refine ⟨?_, ?_, ?_, fun y => by rw [hB]; exact t4 y, by rw [hD, hB]; exact t5⟩
      · rw [u5]; simp [zup3_v]
      · simp [zup3_v]
      · simp [zup3_v]
    · unfold IOp
      rw [k 12 0 9 (by first | decide | omega), k 12 0 8 (by first | decide | omega), c9, c8]
      rcases u6 with ⟨n, _⟩ | ⟨_, m72, mk⟩
      · exact absurd n z
      · refine ⟨⟨i1, i2⟩, i3, i4, ?_⟩
        rw [m72]
        rcases i5 with i5 | ⟨p0, p1, op⟩
        · exact Or.inl i5
        · refine Or.inr ⟨p0, p1, OPN_f op ?_ (fun k x => v2 8 _ k x (by first | decide | omega)) mk⟩
          rw [k 8 _ 2 (by first | decide | omega)]
          exact v1 8 _ 2 (by first | decide | omega)
theorem P_op {K : zK} {Km : Nat} {F : zF} {B : zB} {Fm : zF} {Bm : zB} (h0 : 2 ≤ K.2 0) (h12 : 0 < K.2 12) (hK : 4000 ≤ K.1) (hKm : 4000 ≤ Km) (f0 : F 12 0 0 = 0) (hT : IT F B Fm Bm) (hI : IOp K F B Fm Bm) : ∃ r F' B' K' Fm' Bm', f_S_open K 0 F B = some (r, F', B', K') ∧ f_M_open Km Fm Bm = some (r, Fm', Bm') ∧ (0 ≤ r ∧ r ≤ 100000) ∧ (K' = K ∨ (K.2 8 ≤ 1 ∧ K' = (K.1, zinN K.2 8))) ∧ opF F F' ∧ opB B B' ∧ opG Fm Fm' ∧ opH Bm Bm' ∧ IT F' B' Fm' Bm' ∧ IOp K' F' B' Fm' Bm' := by
  unfold f_S_open
  rw [if_pos ⟨(by first | decide | omega), h12⟩]
  by_cases z : F 12 0 9 < 0
  · obtain ⟨⟨i1, i2⟩, i3, i4, i5⟩ := hI
    have k8 : 0 ≤ K.2 8 := by omega
    have kn : ∀ c, ¬ c = 8 → zinN K.2 8 c = K.2 c := fun c hc => by rw [zinN_v, if_neg hc]
    have k8' : zinN K.2 8 8 = K.2 8 + 1 := by rw [zinN_v, if_pos rfl]
    have ei : f_SoundFile_init K F B = some (K.2 8, zinF F 8 (K.2 8) [0, 0, 0, 0, (-1), 0, 0, 0, 0, 0, 0, 0, 0, 0, 0], zinB B 8 (K.2 8) (fun _ _ => 0), (K.1, zinN K.2 8)) := by
      unfold f_SoundFile_init
      rw [if_pos k8, if_pos (by first | decide | omega)]
    rw [if_pos z, ei]
    simp only [zbindM]
    generalize hF1 : zinF F 8 (K.2 8) [0, 0, 0, 0, (-1), 0, 0, 0, 0, 0, 0, 0, 0, 0, 0] = F1
    generalize hB1 : zinB B 8 (K.2 8) (fun _ _ => 0) = B1
    have fn : ∀ c y k, ¬ (c = 8 ∧ y = K.2 8) → F1 c y k = F c y k := fun c y k a => by rw [← hF1, zinF_v, if_neg a]
    have bn : ∀ c y k x, ¬ (c = 8 ∧ y = K.2 8) → B1 c y k x = B c y k x := fun c y k x a => by rw [← hB1, zinB_v, if_neg a]
    have k12 : zinN K.2 8 12 = K.2 12 := kn 12 (by decide)
    unfold f_S_open_15
    rw [if_pos (show 0 ≤ K.2 8 ∧ K.2 8 < zinN K.2 8 8 by omega), if_pos (show (0 : Int) ≤ 0 ∧ (0 : Int) < zinN K.2 8 12 by omega), if_pos (show (0 : Int) ≤ 0 ∧ (0 : Int) < zinN K.2 8 12 by omega), if_pos (show K.2 8 < zinN K.2 8 8 by omega)]
    have w9 : ∀ c y k, ¬ (c = 12 ∧ y = 0 ∧ k = 9) → (zup3 F1 12 0 9 (K.2 8)) c y k = F1 c y k := fun c y k n => by rw [zup3_v, if_neg n]
    have e9 : (zup3 F1 12 0 9 (K.2 8)) 12 0 9 = K.2 8 := by rw [zup3_v, if_pos (by first | decide | omega)]
    have hT1 : IT (zup3 F1 12 0 9 (K.2 8)) B1 Fm Bm := by
      have : B1 0 0 0 = B 0 0 0 := by funext x; exact bn 0 0 0 x (by first | decide | omega)
      unfold IT at *
      rw [this, w9 0 0 1 (by first | decide | omega), fn 0 0 1 (by first | decide | omega)]
      exact hT
    have hI1 : IOp (K.1, zinN K.2 8) (zup3 F1 12 0 9 (K.2 8)) B1 Fm Bm := by
      have e8 : (zup3 F1 12 0 9 (K.2 8)) 12 0 8 = F 12 0 8 := by rw [w9 12 0 8 (by first | decide | omega), fn 12 0 8 (by first | decide | omega)]
      unfold IOp
      rw [e9, e8]
      show (K.2 8 < zinN K.2 8 8 ∧ F 12 0 8 < zinN K.2 8 8) ∧ _ ∧ ((K.2 8 < 0 ∧ F 12 0 8 < 0 ∧ zinN K.2 8 8 = 0) ∨ (K.2 8 < 0 ∧ 0 ≤ F 12 0 8 ∧ zinN K.2 8 8 = 1) ∨ (0 ≤ K.2 8 ∧ F 12 0 8 < 0 ∧ zinN K.2 8 8 = 1) ∨ (0 ≤ K.2 8 ∧ 0 ≤ F 12 0 8 ∧ zinN K.2 8 8 = 2)) ∧ _
      refine ⟨(by first | decide | omega), fun _ => (by first | decide | omega), (by first | decide | omega), ?_⟩
      rcases i5 with i5 | ⟨p0, p1, op⟩
      · exact Or.inl i5
      · refine Or.inr ⟨p0, p1, OPN_f op ?_ (fun k x => bn 8 _ k x (by first | decide | omega)) (fun _ _ _ => rfl)⟩
        rw [w9 8 _ 2 (by first | decide | omega), fn 8 _ 2 (by first | decide | omega)]
    obtain ⟨r, F', B', Fm', Bm', q1, q2, q3, q4, q5, q6, q7, q8, q9⟩ := P_o18 (K := (K.1, zinN K.2 8)) (Km := Km) (o := K.2 8) (by show 2 ≤ zinN K.2 8 0; rw [kn 0 (by decide)]; exact h0) (by show 0 < zinN K.2 8 12; omega) hK hKm (by rw [w9 12 0 0 (by first | decide | omega), fn 12 0 0 (by first | decide | omega)]; exact f0) e9 (by show 0 ≤ K.2 8 ∧ K.2 8 < zinN K.2 8 8; omega) hT1 hI1
    refine ⟨r, F', B', (K.1, zinN K.2 8), Fm', Bm', q1, q2, q3, Or.inr ⟨(by first | decide | omega), rfl⟩, fun c y k n => ?_, fun c y k x n => ?_, q6, q7, q8, q9⟩
    · rw [q4 c y k n, w9 c y k (by first | decide | omega), fn c y k (by first | decide | omega)]
    · rw [q5 c y k x n, bn c y k x (by first | decide | omega)]
  · rw [if_neg z]
    obtain ⟨r, F', B', Fm', Bm', q1, q2, q3, q4, q5, q6, q7, q8, q9⟩ := P_o18 (Km := Km) (o := F 12 0 9) h0 h12 hK hKm f0 rfl ⟨(by first | decide | omega), hI.1.1⟩ hT hI
    exact ⟨r, F', B', K, Fm', Bm', q1, q2, q3, Or.inl rfl, q4, q5, q6, q7, q8, q9⟩
end
end
section
section
/-! ===== texts written, each side by itself ===== -/
def tbA (T : List Int) (j : Nat) : Int := (T[j]?).getD 0
theorem tbA_l {T U : List Int} {j : Nat} (h : j < T.length) : tbA (T ++ U) j = tbA T j := by
  unfold tbA
  rw [List.getElem?_append_left h]
theorem tbA_r {T : List Int} {a : Int} : tbA (T ++ [a]) T.length = a := by
  unfold tbA
  rw [List.getElem?_append_right (Nat.le_refl _), Nat.sub_self]
  rfl
/-- the class's page holds the text T; all else as in q -/
def TC (q : zF × zB) (T : List Int) (F : zF) (B : zB) : Prop := ((T.length ≤ 20480 ∧ F 0 1 1 = T.length ∧ F 0 1 2 = 0 ∧ ∀ j : Nat, j < T.length → B 0 1 0 j = tbA T j % 256) ∨ (20480 < T.length ∧ F 0 1 1 = 20480 ∧ F 0 1 2 = 1)) ∧ (∀ c y k, ¬ (c = 0 ∧ y = 1 ∧ 1 ≤ k ∧ k ≤ 2) → F c y k = q.1 c y k) ∧ (∀ c y k x, ¬ (c = 0 ∧ y = 1 ∧ k = 0) → B c y k x = q.2 c y k x)
/-- what the reference wrote is the text T; all else as in q -/
def TM (q : zF × zB) (T : List Int) (F : zF) (B : zB) : Prop := (F 14 0 71 = T.length ∧ ∀ j : Nat, j < T.length → B 14 0 70 j % 256 = tbA T j % 256) ∧ (∀ c y k, ¬ (c = 14 ∧ y = 0 ∧ k = 71) → F c y k = q.1 c y k) ∧ (∀ c y k x, ¬ (c = 14 ∧ y = 0 ∧ k = 70) → B c y k x = q.2 c y k x)
theorem TC_s {q : zF × zB} {T : List Int} {F : zF} {B : zB} (h : TC q T F B) : TC (F, B) T F B := ⟨h.1, fun _ _ _ _ => rfl, fun _ _ _ _ _ => rfl⟩
theorem TM_s {q : zF × zB} {T : List Int} {F : zF} {B : zB} (h : TM q T F B) : TM (F, B) T F B := ⟨h.1, fun _ _ _ _ => rfl, fun _ _ _ _ _ => rfl⟩
theorem C_pt {K : zK} {q : zF × zB} {T : List Int} {a : Int} {F : zF} {B : zB} (h0 : 2 ≤ K.2 0) (h : TC q T F B) : ∃ F' B', f_ByteRow_put K 1 a F B = some (0, F', B') ∧ TC q (T ++ [a]) F' B' := by
  obtain ⟨hp, gF, gB⟩ := h
  have ln : ((lnC 0 1 0 : Nat) : Int) = 20480 := by decide
  have ll : (T ++ [a]).length = T.length + 1 := by rw [List.length_append]; rfl
  unfold f_ByteRow_put
  rw [ln]
  rcases hp with ⟨t1, t2, t3, t4⟩ | ⟨t1, t2, t3⟩
  · by_cases z : T.length < 20480
    · rw [t2, if_pos (by first | decide | omega), if_pos (by unfold r32; omega), if_pos (by decide), if_pos (by first | decide | omega), if_pos (by first | decide | omega), zand255]
      refine ⟨_, _, rfl, Or.inl ⟨(by first | decide | omega), ?_, ?_, fun j hj => ?_⟩, fun c y k n => ?_, fun c y k x n => ?_⟩
      · rw [zup3_v, if_pos (by first | decide | omega), ll]; omega
      · rw [zup3_v, if_neg (by first | decide | omega)]; exact t3
      · rw [zup4_v]
        by_cases y : j = T.length
        · rw [if_pos (by first | decide | omega), y, tbA_r]
        · rw [if_neg (by first | decide | omega), tbA_l (by first | decide | omega)]; exact t4 j (by first | decide | omega)
      · rw [zup3_v, if_neg (by first | decide | omega)]; exact gF c y k n
      · rw [zup4_v, if_neg (by first | decide | omega)]; exact gB c y k x n
    · rw [t2, if_pos (by first | decide | omega), if_pos (by unfold r32; omega), if_pos (by decide), if_neg (by first | decide | omega)]
      refine ⟨_, _, rfl, Or.inr ⟨(by first | decide | omega), ?_, ?_⟩, fun c y k n => ?_, gB⟩
      · rw [zup3_v, if_neg (by first | decide | omega), t2]; omega
      · rw [zup3_v, if_pos (by first | decide | omega)]
      · rw [zup3_v, if_neg (by first | decide | omega)]; exact gF c y k n
  · rw [t2, if_pos (by first | decide | omega), if_pos (by decide), if_pos (by decide), if_neg (by decide)]
    refine ⟨_, _, rfl, Or.inr ⟨(by first | decide | omega), ?_, ?_⟩, fun c y k n => ?_, gB⟩
    · rw [zup3_v, if_neg (by first | decide | omega), t2]
    · rw [zup3_v, if_pos (by first | decide | omega)]
    · rw [zup3_v, if_neg (by first | decide | omega)]; exact gF c y k n
theorem M_pt {Km : Nat} {q : zF × zB} {T : List Int} {a : Int} {F : zF} {B : zB} (hn : T.length < 30000) (h : TM q T F B) : ∃ F' B', f_M_put_0 Km a F B = some (0, F', B') ∧ TM q (T ++ [a]) F' B' := by
  obtain ⟨⟨t2, t4⟩, gF, gB⟩ := h
  have ll : (T ++ [a]).length = T.length + 1 := by rw [List.length_append]; rfl
  unfold f_M_put_0 f_M_put_0_20
  rw [t2, if_pos (by unfold r32; omega), if_neg (by first | decide | omega), if_pos (by first | decide | omega)]
  refine ⟨_, _, rfl, ⟨?_, fun j hj => ?_⟩, fun c y k n => ?_, fun c y k x n => ?_⟩
  · rw [zup3_v, if_pos (by first | decide | omega), ll]; omega
  · rw [zup4_v]
    by_cases y : j = T.length
    · rw [if_pos (by first | decide | omega), y, tbA_r, zi2b_m]
    · rw [if_neg (by first | decide | omega), tbA_l (by first | decide | omega)]; exact t4 j (by first | decide | omega)
  · rw [zup3_v, if_neg (by first | decide | omega)]; exact gF c y k n
  · rw [zup4_v, if_neg (by first | decide | omega)]; exact gB c y k x n
/-- a string's letters from k on, d of them -/
def strT (s : Nat) : Nat → Int → List Int
  | 0, _ => []
  | d + 1, k => zsc s k :: strT s d (k + 1)
theorem C_txs {K : zK} {q : zF × zB} {s : Nat} (h0 : 2 ≤ K.2 0) (hs : s < strL.length) (hz : zshr (zsl s) 0 = zsl s) (hl : zsl s ≤ 100) : ∀ (d m : Nat) (k : Int) (T : List Int) (F : zF) (B : zB), k + d = zsl s → 0 ≤ k → d < m → TC q T F B → ∃ F' B', f_ByteRow_putText_2 K m k 1 s F B = some (0, F', B') ∧ TC q (T ++ strT s d k) F' B' := by
  intro d
  induction d with
  | zero =>
    intro m k T F B e k0 hm h
    obtain ⟨p, rfl⟩ : ∃ p, m = p + 1 := ⟨m - 1, (by first | decide | omega)⟩
    have : k = zsl s := by omega
    subst this
    exact ⟨F, B, C_txtE p hs hz (by first | decide | omega), by rw [strT, List.append_nil]; exact h⟩
  | succ d ih =>
    intro m k T F B e k0 hm h
    obtain ⟨p, rfl⟩ : ∃ p, m = p + 1 := ⟨m - 1, (by first | decide | omega)⟩
    obtain ⟨F1, B1, e1, w1⟩ := C_pt (a := zsc s k) h0 h
    obtain ⟨F2, B2, e2, w2⟩ := ih p (k + 1) _ F1 B1 (by first | decide | omega) (by first | decide | omega) (by first | decide | omega) w1
    refine ⟨F2, B2, ?_, ?_⟩
    · rw [C_txt h0 p hs hz k0 (by first | decide | omega) (by first | decide | omega), e1, zb_s, e2]
    · rw [List.append_assoc] at w2; exact w2
theorem M_txs {Km : Nat} {q : zF × zB} {s : Nat} (hs : s < strL.length) (hz : zshr (zsl s) 0 = zsl s) (hl : zsl s ≤ 100) : ∀ (d m : Nat) (k : Int) (T : List Int) (F : zF) (B : zB), k + d = zsl s → 0 ≤ k → d < m → T.length + d < 30000 → TM q T F B → ∃ F' B', f_M_put_1_2 Km m k s F B = some (0, F', B') ∧ TM q (T ++ strT s d k) F' B' := by
  intro d
  induction d with
  | zero =>
    intro m k T F B e k0 hm hn h
    obtain ⟨p, rfl⟩ : ∃ p, m = p + 1 := ⟨m - 1, (by first | decide | omega)⟩
    have : k = zsl s := by omega
    subst this
    exact ⟨F, B, L_txtE p hs hz (by first | decide | omega), by rw [strT, List.append_nil]; exact h⟩
  | succ d ih =>
    intro m k T F B e k0 hm hn h
    obtain ⟨p, rfl⟩ : ∃ p, m = p + 1 := ⟨m - 1, (by first | decide | omega)⟩
    obtain ⟨F1, B1, e1, w1⟩ := M_pt (Km := Km) (a := zsc s k) (by first | decide | omega) h
    obtain ⟨F2, B2, e2, w2⟩ := ih p (k + 1) _ F1 B1 (by first | decide | omega) (by first | decide | omega) (by first | decide | omega) (by rw [List.length_append]; simp; omega) w1
    refine ⟨F2, B2, ?_, ?_⟩
    · rw [L_txt p hs hz k0 (by first | decide | omega) (by first | decide | omega), e1, zb_s, e2]
    · rw [List.append_assoc] at w2; exact w2
/-- a whole string, its letters given -/
theorem C_strg {K : zK} {q : zF × zB} {s : Nat} {T U : List Int} {F : zF} {B : zB} (h0 : 2 ≤ K.2 0) (hK : 200 ≤ K.1) (hs : s < strL.length) (hl : 0 ≤ zsl s ∧ zsl s ≤ 100) (hz : zshr (zsl s) 0 = zsl s) (e : strT s (zsl s).toNat 0 = U) (h : TC q T F B) : ∃ F' B', f_ByteRow_putText K 1 s F B = some (0, F', B') ∧ TC q (T ++ U) F' B' := by
  obtain ⟨F', B', e1, w⟩ := C_txs h0 hs hz hl.2 (zsl s).toNat K.1 0 T F B (by first | decide | omega) (by first | decide | omega) (by first | decide | omega) h
  rw [e] at w
  exact ⟨F', B', e1, w⟩
theorem M_strg {Km : Nat} {q : zF × zB} {s : Nat} {T U : List Int} {F : zF} {B : zB} (hK : 200 ≤ Km) (hs : s < strL.length) (hl : 0 ≤ zsl s ∧ zsl s ≤ 100) (hz : zshr (zsl s) 0 = zsl s) (e : strT s (zsl s).toNat 0 = U) (hn : T.length < 20000) (h : TM q T F B) : ∃ F' B', f_M_put_1 Km s F B = some (0, F', B') ∧ TM q (T ++ U) F' B' := by
  obtain ⟨F', B', e1, w⟩ := M_txs (Km := Km) hs hz hl.2 (zsl s).toNat Km 0 T F B (by first | decide | omega) (by first | decide | omega) (by first | decide | omega) (by first | decide | omega) h
  rw [e] at w
  exact ⟨F', B', e1, w⟩
/-- decimal digits -/
def decT (v : Int) : List Int := if v < 10 then [48 + v % 10] else if v < 100 then [48 + v / 10 % 10, 48 + v % 10] else [48 + v / 100 % 10, 48 + v / 10 % 10, 48 + v % 10]
theorem zdv1 {v : Int} (h : 0 ≤ v ∧ v < 1000) {p : Int} (hp : 0 < p ∧ p ≤ 1000) : zdv v p = v / p := zdv_e h.1 (by unfold r32; omega) hp.1 (by unfold r32; omega)
theorem zrm1 {v : Int} (h : 0 ≤ v ∧ v < 1000) : zrm v 10 = v % 10 := zrm_e h.1 (by unfold r32; omega) (by decide) (by decide)
theorem C_d31 {K : zK} {q : zF × zB} {T : List Int} {v l p : Int} {m : Nat} {F : zF} {B : zB} (h0 : 2 ≤ K.2 0) (hv : 0 ≤ v ∧ v < 1000) (hl : 0 ≤ l ∧ l < 5) (hp : p = 1 ∨ p = 10 ∨ p = 100) (h : TC q T F B) : ∃ F' B', f_ByteRow_putDecimal_31 K (m + 1) l p 1 v F B = f_ByteRow_putDecimal_31 K m (l + 1) (p / 10) 1 v F' B' ∧ TC q (T ++ [48 + v / p % 10]) F' B' := by
  have vp : 0 ≤ v / p ∧ v / p < 1000 := by rcases hp with rfl | rfl | rfl <;> omega
  obtain ⟨F1, B1, e1, w1⟩ := C_pt (a := 48 + v / p % 10) h0 h
  refine ⟨F1, B1, ?_, w1⟩
  rw [f_ByteRow_putDecimal_31, if_pos (by unfold r32; omega), if_neg (by first | decide | omega), if_pos (by unfold r32; omega), if_neg (by first | decide | omega), if_pos (iI_n0 (by first | decide | omega) (by unfold r32; omega)), if_pos (by first | decide | omega), zdv1 hv (by first | decide | omega), zrm1 vp, e1, zb_s, zdv1 (by first | decide | omega) (by first | decide | omega)]
theorem C_d0 {K : zK} {v l : Int} {m : Nat} {F : zF} {B : zB} (hl : 0 ≤ l ∧ l < 5) : f_ByteRow_putDecimal_31 K (m + 1) l 0 1 v F B = some (0, F, B) := by
  rw [f_ByteRow_putDecimal_31, if_pos (by unfold r32; omega), if_neg (by first | decide | omega), if_pos (by decide), if_pos (by decide), f_ByteRow_putDecimal_65]
theorem C_dec {K : zK} {q : zF × zB} {T : List Int} {v : Int} {F : zF} {B : zB} (h0 : 2 ≤ K.2 0) (hK : 200 ≤ K.1) (hv : 0 ≤ v ∧ v < 1000) (h : TC q T F B) : ∃ F' B', f_ByteRow_putDecimal K 1 v F B = some (0, F', B') ∧ TC q (T ++ decT v) F' B' := by
  obtain ⟨m, em⟩ : ∃ m, K.1 = m + 1 + 1 + 1 + 1 := ⟨K.1 - 4, (by first | decide | omega)⟩
  have e4 : ∀ (j : Nat) (l p : Int), 0 ≤ l → l < 5 → (p = 1 ∨ p = 10 ∨ p = 100) → f_ByteRow_putDecimal_4 K (j + 1) l p 1 v F B = if v / p < 10 then f_ByteRow_putDecimal_29 K p 1 v F B else f_ByteRow_putDecimal_4 K j (l + 1) (p * 10) 1 v F B := fun j l p l0 l1 hp => by
    have vp : 0 ≤ v / p ∧ v / p < 1000 := by rcases hp with rfl | rfl | rfl <;> omega
    rw [f_ByteRow_putDecimal_4, if_pos (by unfold r32; omega), if_neg (by first | decide | omega), if_pos (iI_n0 (by first | decide | omega) (by unfold r32; omega)), zdv1 hv (by first | decide | omega), if_pos (by unfold r32; omega)]
  have e0 : f_ByteRow_putDecimal K 1 v F B = f_ByteRow_putDecimal_4 K K.1 0 1 1 v F B := rfl
  have e29 : ∀ p, f_ByteRow_putDecimal_29 K p 1 v F B = f_ByteRow_putDecimal_31 K (m + 1 + 1 + 1 + 1) 0 p 1 v F B := fun p => by
    unfold f_ByteRow_putDecimal_29; rw [em]
  rw [e0, em]
  unfold decT
  by_cases z1 : v < 10
  · obtain ⟨F1, B1, a1, w1⟩ := C_d31 (m := m + 1 + 1 + 1) (l := 0) (p := 1) h0 hv (by decide) (Or.inl rfl) h
    rw [e4 _ 0 1 (by decide) (by decide) (Or.inl rfl), if_pos (by first | decide | omega), e29, a1, show (1 : Int) / 10 = 0 from rfl, C_d0 (by decide), if_pos z1]
    rw [show v / 1 % 10 = v % 10 by omega] at w1
    exact ⟨F1, B1, rfl, w1⟩
  · rw [e4 _ 0 1 (by decide) (by decide) (Or.inl rfl), if_neg (by first | decide | omega), show (1 : Int) * 10 = 10 from rfl, if_neg z1]
    by_cases z2 : v < 100
    · obtain ⟨F1, B1, a1, w1⟩ := C_d31 (m := m + 1 + 1 + 1) (l := 0) (p := 10) h0 hv (by decide) (Or.inr (Or.inl rfl)) h
      obtain ⟨F2, B2, a2, w2⟩ := C_d31 (m := m + 1 + 1) (l := 0 + 1) (p := 1) h0 hv (by decide) (Or.inl rfl) w1
      rw [e4 _ (0 + 1) 10 (by decide) (by decide) (Or.inr (Or.inl rfl)), if_pos (by first | decide | omega), e29, a1, show (10 : Int) / 10 = 1 from rfl, a2, show (1 : Int) / 10 = 0 from rfl, C_d0 (by decide), if_pos z2]
      rw [show v / 1 % 10 = v % 10 by omega, List.append_assoc] at w2
      exact ⟨F2, B2, rfl, w2⟩
    · obtain ⟨F1, B1, a1, w1⟩ := C_d31 (m := m + 1 + 1 + 1) (l := 0) (p := 100) h0 hv (by decide) (Or.inr (Or.inr rfl)) h
      obtain ⟨F2, B2, a2, w2⟩ := C_d31 (m := m + 1 + 1) (l := 0 + 1) (p := 10) h0 hv (by decide) (Or.inr (Or.inl rfl)) w1
      obtain ⟨F3, B3, a3, w3⟩ := C_d31 (m := m + 1) (l := 0 + 1 + 1) (p := 1) h0 hv (by decide) (Or.inl rfl) w2
      rw [e4 _ (0 + 1) 10 (by decide) (by decide) (Or.inr (Or.inl rfl)), if_neg (by first | decide | omega), show (10 : Int) * 10 = 100 from rfl, e4 _ (0 + 1 + 1) 100 (by decide) (by decide) (Or.inr (Or.inr rfl)), if_pos (by first | decide | omega), e29, a1, show (100 : Int) / 10 = 10 from rfl, a2, show (10 : Int) / 10 = 1 from rfl, a3, show (1 : Int) / 10 = 0 from rfl, C_d0 (by decide), if_neg z2]
      rw [show v / 1 % 10 = v % 10 by omega, List.append_assoc, List.append_assoc] at w3
      exact ⟨F3, B3, rfl, w3⟩
theorem M_d18 {Km : Nat} {q : zF × zB} {T : List Int} {v p : Int} {m : Nat} {F : zF} {B : zB} (hv : 0 ≤ v ∧ v < 1000) (hp : p = 1 ∨ p = 10 ∨ p = 100) (hn : T.length < 30000) (h : TM q T F B) : ∃ F' B', f_M_digits_18 Km (m + 1) p v F B = f_M_digits_18 Km m (p / 10) v F' B' ∧ TM q (T ++ [48 + v / p % 10]) F' B' := by
  have vp : 0 ≤ v / p ∧ v / p < 1000 := by rcases hp with rfl | rfl | rfl <;> omega
  obtain ⟨F1, B1, e1, w1⟩ := M_pt (Km := Km) (a := 48 + v / p % 10) hn h
  refine ⟨F1, B1, ?_, w1⟩
  rw [f_M_digits_18, if_pos (by unfold r32; omega), if_neg (by first | decide | omega), if_pos (iI_n0 (by first | decide | omega) (by unfold r32; omega)), zdv1 hv (by first | decide | omega), zrm1 vp, e1, zb_s, zdv1 (by first | decide | omega) (by first | decide | omega)]
theorem M_d0 {Km : Nat} {v : Int} {m : Nat} {F : zF} {B : zB} : f_M_digits_18 Km (m + 1) 0 v F B = some (0, F, B) := by
  rw [f_M_digits_18, if_pos (by decide), if_pos (by decide)]
theorem M_dec {Km : Nat} {q : zF × zB} {T : List Int} {v : Int} {F : zF} {B : zB} (hK : 200 ≤ Km) (hv : 0 ≤ v ∧ v < 1000) (hn : T.length < 20000) (h : TM q T F B) : ∃ F' B', f_M_digits Km v F B = some (0, F', B') ∧ TM q (T ++ decT v) F' B' := by
  obtain ⟨m, em⟩ : ∃ m, Km = m + 1 + 1 + 1 + 1 := ⟨Km - 4, (by first | decide | omega)⟩
  have ll : ∀ (U : List Int) (a : Int), (U ++ [a]).length = U.length + 1 := fun U a => by rw [List.length_append]; rfl
  have e4 : ∀ (j : Nat) (p : Int), (p = 1 ∨ p = 10 ∨ p = 100) → f_M_digits_2 Km (j + 1) p v F B = if v / p ≤ 9 then f_M_digits_18 Km Km p v F B else f_M_digits_2 Km j (p * 10) v F B := fun j p hp => by
    have vp : 0 ≤ v / p ∧ v / p < 1000 := by rcases hp with rfl | rfl | rfl <;> omega
    rw [f_M_digits_2, if_pos (iI_n0 (by first | decide | omega) (by unfold r32; omega)), zdv1 hv (by first | decide | omega), if_pos (by unfold r32; omega)]
  have e0 : ∀ i, i = m + 1 + 1 + 1 + 1 → f_M_digits Km v F B = f_M_digits_2 Km i 1 v F B := fun i ei => by rw [ei, ← em]; rfl
  have e18 : ∀ i p, i = m + 1 + 1 + 1 + 1 → f_M_digits_18 Km Km p v F B = f_M_digits_18 Km i p v F B := fun i p ei => by rw [ei, ← em]
  rw [e0 _ rfl]
  unfold decT
  by_cases z1 : v < 10
  · obtain ⟨F1, B1, a1, w1⟩ := M_d18 (Km := Km) (m := m + 1 + 1 + 1) (p := 1) hv (Or.inl rfl) (by first | decide | omega) h
    rw [e4 _ 1 (Or.inl rfl), if_pos (by first | decide | omega), e18 _ _ rfl, a1, show (1 : Int) / 10 = 0 from rfl, M_d0, if_pos z1]
    rw [show v / 1 % 10 = v % 10 by omega] at w1
    exact ⟨F1, B1, rfl, w1⟩
  · rw [e4 _ 1 (Or.inl rfl), if_neg (by first | decide | omega), show (1 : Int) * 10 = 10 from rfl, if_neg z1]
    by_cases z2 : v < 100
    · obtain ⟨F1, B1, a1, w1⟩ := M_d18 (Km := Km) (m := m + 1 + 1 + 1) (p := 10) hv (Or.inr (Or.inl rfl)) (by first | decide | omega) h
      obtain ⟨F2, B2, a2, w2⟩ := M_d18 (Km := Km) (m := m + 1 + 1) (p := 1) hv (Or.inl rfl) (by rw [ll]; omega) w1
      rw [e4 _ 10 (Or.inr (Or.inl rfl)), if_pos (by first | decide | omega), e18 _ _ rfl, a1, show (10 : Int) / 10 = 1 from rfl, a2, show (1 : Int) / 10 = 0 from rfl, M_d0, if_pos z2]
      rw [show v / 1 % 10 = v % 10 by omega, List.append_assoc] at w2
      exact ⟨F2, B2, rfl, w2⟩
    · obtain ⟨F1, B1, a1, w1⟩ := M_d18 (Km := Km) (m := m + 1 + 1 + 1) (p := 100) hv (Or.inr (Or.inr rfl)) (by first | decide | omega) h
      obtain ⟨F2, B2, a2, w2⟩ := M_d18 (Km := Km) (m := m + 1 + 1) (p := 10) hv (Or.inr (Or.inl rfl)) (by rw [ll]; omega) w1
      obtain ⟨F3, B3, a3, w3⟩ := M_d18 (Km := Km) (m := m + 1) (p := 1) hv (Or.inl rfl) (by rw [ll, ll]; omega) w2
      rw [e4 _ 10 (Or.inr (Or.inl rfl)), if_neg (by first | decide | omega), show (10 : Int) * 10 = 100 from rfl, e4 _ 100 (Or.inr (Or.inr rfl)), if_pos (by first | decide | omega), e18 _ _ rfl, a1, show (100 : Int) / 10 = 10 from rfl, a2, show (10 : Int) / 10 = 1 from rfl, a3, show (1 : Int) / 10 = 0 from rfl, M_d0, if_neg z2]
      rw [show v / 1 % 10 = v % 10 by omega, List.append_assoc, List.append_assoc] at w3
      exact ⟨F3, B3, rfl, w3⟩
end
end
section
section
/-! ===== the text of a note ===== -/
def rptT (c : Int) : Nat → List Int
  | 0 => []
  | d + 1 => c :: rptT c d
def pitT (s a : Int) : List Int := zsc 47 (s % 7) :: (rptT (if 0 < a then 35 else 98) (if 0 < a then a else -a).toNat ++ [48 + s / 7])
def chT (st al : Int → Int) : Nat → Int → List Int
  | 0, _ => []
  | d + 1, k => (if 0 < k then [32] else []) ++ (pitT (st k) (al k) ++ chT st al d (k + 1))
/-- a note but for what comes behind its points -/
def ntA (m : Int) (st al : Int → Int) (v : Int) : List Int := (if m = 0 then [114] else []) ++ ((if 1 < m then [60] else []) ++ (chT st al m.toNat 0 ++ ((if 1 < m then [62] else []) ++ (58 :: (decT (zshl 1 (v / 3)) ++ rptT 46 (2 - v % 3).toNat)))))
theorem rptT_s {c : Int} {T : List Int} {d : Nat} : T ++ rptT c (d + 1) = (T ++ [c]) ++ rptT c d := by
  rw [List.append_assoc]; rfl
theorem letK : ∀ k : Fin 7, zsc 20 (k.val : Int) = zsc 47 (k.val : Int) := by decide +kernel
theorem letE {k : Int} (h0 : 0 ≤ k) (h1 : k < 7) : zsc 20 k = zsc 47 k := by
  have := letK ⟨k.toNat, (by first | decide | omega)⟩
  rwa [show (((⟨k.toNat, (by first | decide | omega)⟩ : Fin 7).val : Nat) : Int) = k by show ((k.toNat : Nat) : Int) = k; omega] at this
theorem C_wp20 {K : zK} {q : zF × zB} {s a : Int} (h0 : 2 ≤ K.2 0) (h7 : 0 < K.2 7) (q1 : q.1 7 0 1 = 1) (hs : 0 ≤ s ∧ s ≤ 62) (ha : -7 ≤ a ∧ a ≤ 7) : ∀ (d n : Nat) (k : Int) (T : List Int) (F : zF) (B : zB), k + d = (if 0 < a then a else -a) → 0 ≤ k → d < n → TC q T F B → ∃ F' B', f_Scribe_writePitch_20 K n k 0 s a F B = some (0, F', B') ∧ TC q (T ++ (rptT (if 0 < a then 35 else 98) d ++ [48 + s / 7])) F' B' := by
  have za : zabs a = (if 0 < a then a else -a) := by unfold zabs; split <;> split <;> omega
  have zb : r32 (zabs a) := by rw [za]; unfold r32; split <;> omega
  have zd : zdv s 7 = s / 7 := zdv_e hs.1 (by unfold r32; omega) (by decide) (by decide)
  intro d
  induction d with
  | zero =>
    intro n k T F B e k0 hn h
    obtain ⟨p, rfl⟩ : ∃ p, n = p + 1 := ⟨n - 1, (by first | decide | omega)⟩
    have f1 : F 7 0 1 = 1 := by rw [h.2.1 7 0 1 (by first | decide | omega)]; exact q1
    obtain ⟨F1, B1, e1, w1⟩ := C_pt (a := 48 + s / 7) h0 h
    refine ⟨F1, B1, ?_, w1⟩
    rw [f_Scribe_writePitch_20, if_pos (by unfold r32; omega), if_pos (by unfold r32; split at e <;> omega), if_pos zb, if_pos (by rw [za]; omega), if_pos ⟨(by first | decide | omega), h7⟩, f1, if_pos (by first | decide | omega), zd, e1, zb_s]
  | succ d ih =>
    intro n k T F B e k0 hn h
    obtain ⟨p, rfl⟩ : ∃ p, n = p + 1 := ⟨n - 1, (by first | decide | omega)⟩
    have f1 : F 7 0 1 = 1 := by rw [h.2.1 7 0 1 (by first | decide | omega)]; exact q1
    obtain ⟨F1, B1, e1, w1⟩ := C_pt (a := if 0 < a then 35 else 98) h0 h
    obtain ⟨F2, B2, e2, w2⟩ := ih p (k + 1) _ F1 B1 (by first | decide | omega) (by first | decide | omega) (by first | decide | omega) w1
    refine ⟨F2, B2, ?_, ?_⟩
    · rw [f_Scribe_writePitch_20, if_pos (by unfold r32; omega), if_pos (by unfold r32; split at e <;> omega), if_pos zb, if_neg (by rw [za]; omega), if_pos ⟨(by first | decide | omega), h7⟩, f1]
      by_cases z : a ≤ 0
      · rw [if_neg (by first | decide | omega)] at e1
        rw [if_pos z, f_Scribe_writePitch_43, if_pos (by first | decide | omega), e1, zb_s]
        exact e2
      · rw [if_pos (by first | decide | omega)] at e1
        rw [if_neg z, f_Scribe_writePitch_43, if_pos (by first | decide | omega), e1, zb_s]
        exact e2
    · rw [List.append_assoc] at w2
      exact w2
theorem C_wp {K : zK} {q : zF × zB} {s a : Int} {T : List Int} {F : zF} {B : zB} (h0 : 2 ≤ K.2 0) (h7 : 0 < K.2 7) (hK : 200 ≤ K.1) (q1 : q.1 7 0 1 = 1) (hs : 0 ≤ s ∧ s ≤ 62) (ha : -7 ≤ a ∧ a ≤ 7) (h : TC q T F B) : ∃ F' B', f_Scribe_writePitch K 0 s a F B = some (0, F', B') ∧ TC q (T ++ pitT s a) F' B' := by
  have f1 : F 7 0 1 = 1 := by rw [h.2.1 7 0 1 (by first | decide | omega)]; exact q1
  have l20 : zsl 20 = 7 := by decide
  obtain ⟨F1, B1, e1, w1⟩ := C_pt (a := zsc 47 (s % 7)) h0 h
  obtain ⟨F2, B2, e2, w2⟩ := C_wp20 h0 h7 q1 hs ha (if 0 < a then a else -a).toNat K.1 0 _ F1 B1 (by split <;> omega) (by first | decide | omega) (by split <;> omega) w1
  refine ⟨F2, B2, ?_, ?_⟩
  · unfold f_Scribe_writePitch
    rw [if_pos ⟨(by first | decide | omega), h7⟩, f1, if_pos (by first | decide | omega), C_fm hs.1 hs.2, zb_s, C_schar (by decide) (by first | decide | omega) (by first | decide | omega) (by first | decide | omega), zb_s, letE (by first | decide | omega) (by first | decide | omega), e1, zb_s]
    exact e2
  · rw [List.append_assoc] at w2
    exact w2
theorem C_wn46 {K : zK} {q : zF × zB} {m v g : Int} {st al : Int → Int} (h0 : 2 ≤ K.2 0) (h7 : 0 < K.2 7) (h1 : 0 < K.2 1) (hK : 200 ≤ K.1) (q1 : q.1 7 0 1 = 1) (q4 : q.1 7 0 4 = 0) (q10 : q.1 1 0 10 = m) (hm : 0 ≤ m ∧ m ≤ 6) (hp : ∀ k, 0 ≤ k → k < m → q.2 1 0 12 k = st k ∧ q.2 1 0 13 k = al k ∧ (0 ≤ st k ∧ st k ≤ 62) ∧ (-7 ≤ al k ∧ al k ≤ 7)) : ∀ (d n : Nat) (k : Int) (T : List Int) (F : zF) (B : zB), k + d = m → 0 ≤ k → d < n → TC q T F B → ∃ F' B', f_Scribe_writeNote_46 K n k 0 v g F B = f_Scribe_writeNote_125 K 0 v g 1 (if m ≤ 1 then 18 else 17) F' B' ∧ TC q (T ++ chT st al d k) F' B' := by
  intro d
  induction d with
  | zero =>
    intro n k T F B e k0 hn h
    obtain ⟨p, rfl⟩ : ∃ p, n = p + 1 := ⟨n - 1, (by first | decide | omega)⟩
    have f1 : F 7 0 1 = 1 := by rw [h.2.1 7 0 1 (by first | decide | omega)]; exact q1
    have f4 : F 7 0 4 = 0 := by rw [h.2.1 7 0 4 (by first | decide | omega)]; exact q4
    have f10 : F 1 0 10 = m := by rw [h.2.1 1 0 10 (by first | decide | omega)]; exact q10
    refine ⟨F, B, ?_, by rw [chT, List.append_nil]; exact h⟩
    rw [f_Scribe_writeNote_46, if_pos ⟨(by first | decide | omega), h7⟩, f4, if_pos ⟨(by first | decide | omega), h1⟩, if_pos (by unfold r32; omega), f10, if_pos (by unfold r32; omega), if_pos (by first | decide | omega), f1]
    by_cases z : m ≤ 1
    · rw [if_pos z, if_pos z]
    · rw [if_neg z, if_neg z]
  | succ d ih =>
    intro n k T F B e k0 hn h
    obtain ⟨p, rfl⟩ : ∃ p, n = p + 1 := ⟨n - 1, (by first | decide | omega)⟩
    have f1 : F 7 0 1 = 1 := by rw [h.2.1 7 0 1 (by first | decide | omega)]; exact q1
    have f4 : F 7 0 4 = 0 := by rw [h.2.1 7 0 4 (by first | decide | omega)]; exact q4
    have f10 : F 1 0 10 = m := by rw [h.2.1 1 0 10 (by first | decide | omega)]; exact q10
    obtain ⟨p1, p2, p3, p4⟩ := hp k k0 (by first | decide | omega)
    obtain ⟨F1, B1, e1, w1⟩ : ∃ F1 B1, f_ByteRow_putText K 1 (if k ≤ 0 then 15 else 16) F B = some (0, F1, B1) ∧ TC q (T ++ (if 0 < k then [32] else [])) F1 B1 := by
      by_cases z : k ≤ 0
      · rw [if_pos z, if_neg (by first | decide | omega)]
        exact C_strg h0 hK (by decide) (by decide) (by decide) (by decide) h
      · rw [if_neg z, if_pos (by first | decide | omega)]
        exact C_strg h0 hK (by decide) (by decide) (by decide) (by decide) h
    have g4 : F1 7 0 4 = 0 := by rw [w1.2.1 7 0 4 (by first | decide | omega)]; exact q4
    obtain ⟨F2, B2, e2, w2⟩ := C_wp h0 h7 hK q1 p3 p4 w1
    obtain ⟨F3, B3, e3, w3⟩ := ih p (k + 1) _ F2 B2 (by first | decide | omega) (by first | decide | omega) (by first | decide | omega) w2
    refine ⟨F3, B3, ?_, ?_⟩
    · have e72 : f_Scribe_writeNote_72 (f_Scribe_writeNote_46 K p) K k 0 v g 1 (if k ≤ 0 then 15 else 16) F B = f_Scribe_writeNote_46 K p (k + 1) 0 v g F2 B2 := by
        unfold f_Scribe_writeNote_72
        rw [if_pos (by first | decide | omega), e1, zb_s, if_pos ⟨(by first | decide | omega), h7⟩, g4, if_pos ⟨(by first | decide | omega), h1⟩, if_pos (by first | decide | omega), w1.2.2 1 0 12 k (by first | decide | omega), w1.2.2 1 0 13 k (by first | decide | omega), p1, p2, e2, zb_s]
      rw [f_Scribe_writeNote_46, if_pos ⟨(by first | decide | omega), h7⟩, f4, if_pos ⟨(by first | decide | omega), h1⟩, if_pos (by unfold r32; omega), f10, if_pos (by unfold r32; omega), if_neg (by first | decide | omega), f1]
      rw [← e3, ← e72]
      by_cases z : k ≤ 0
      · rw [if_pos z, if_pos z]
      · rw [if_neg z, if_neg z]
    · rw [List.append_assoc, List.append_assoc] at w3
      exact w3
/-- the points, then what comes behind -/
theorem C_wn142 {K : zK} {q : zF × zB} {m v g : Int} (h0 : 2 ≤ K.2 0) (h7 : 0 < K.2 7) (h1 : 0 < K.2 1) (hK : 200 ≤ K.1) (q1 : q.1 7 0 1 = 1) (q4 : q.1 7 0 4 = 0) (q10 : q.1 1 0 10 = m) (hm : 0 ≤ m ∧ m ≤ 6) (hv : 0 ≤ v ∧ v < 24) (hg : g = 0 ∨ g = 1) : ∀ (d n : Nat) (k : Int) (T : List Int) (F : zF) (B : zB), k + d = 2 - v % 3 → 0 ≤ k → d < n → TC q T F B → ∃ F' B', f_Scribe_writeNote_142 K n k 0 v g F B = some (0, F', B') ∧ TC q (T ++ (rptT 46 d ++ ((if g = 1 ∧ ¬ m = 0 then [126] else []) ++ [32]))) F' B' := by
  have zr : zrm v 3 = v % 3 := zrm_e hv.1 (by unfold r32; omega) (by decide) (by decide)
  intro d
  induction d with
  | zero =>
    intro n k T F B e k0 hn h
    obtain ⟨p, rfl⟩ : ∃ p, n = p + 1 := ⟨n - 1, (by first | decide | omega)⟩
    have f1 : F 7 0 1 = 1 := by rw [h.2.1 7 0 1 (by first | decide | omega)]; exact q1
    have f4 : F 7 0 4 = 0 := by rw [h.2.1 7 0 4 (by first | decide | omega)]; exact q4
    have f10 : F 1 0 10 = m := by rw [h.2.1 1 0 10 (by first | decide | omega)]; exact q10
    obtain ⟨F1, B1, e1, w1⟩ : ∃ F1 B1, f_ByteRow_putText K 1 (if g = 1 ∧ ¬ m = 0 then 19 else 16) F B = some (0, F1, B1) ∧ TC q (T ++ ((if g = 1 ∧ ¬ m = 0 then [126] else []) ++ [32])) F1 B1 := by
      by_cases z : g = 1 ∧ ¬ m = 0
      · rw [if_pos z, if_pos z]
        exact C_strg h0 hK (by decide) (by decide) (by decide) (by decide) h
      · rw [if_neg z, if_neg z]
        exact C_strg h0 hK (by decide) (by decide) (by decide) (by decide) h
    refine ⟨F1, B1, ?_, w1⟩
    have e191 : f_Scribe_writeNote_191 K 1 (if g = 1 ∧ ¬ m = 0 then 19 else 16) F B = some (0, F1, B1) := by
      unfold f_Scribe_writeNote_191
      rw [if_pos (by first | decide | omega), e1, zb_s]
    rw [f_Scribe_writeNote_142, if_pos (by unfold r32; omega), zr, if_pos (by unfold r32; omega), if_pos (by first | decide | omega), if_pos ⟨(by first | decide | omega), h7⟩, if_pos (by unfold r32; omega), f1, f4, ← e191]
    unfold f_Scribe_writeNote_189
    by_cases z : g = 0
    · rw [if_pos z, if_neg (by first | decide | omega)]
    · rw [if_neg z, if_pos (by first | decide | omega), if_pos ⟨(by first | decide | omega), h1⟩]
      unfold f_Event_isRest f_Event_isRest_12
      rw [if_pos ⟨(by first | decide | omega), h1⟩, f10, if_pos (by unfold r32; omega)]
      by_cases y : m = 0
      · rw [if_pos y, if_pos (by first | decide | omega), zb_s, if_pos (by decide), if_neg (by decide), if_neg (by first | decide | omega)]
      · rw [if_neg y, if_pos (by first | decide | omega), zb_s, if_pos (by decide), if_pos rfl, if_pos (by first | decide | omega)]
  | succ d ih =>
    intro n k T F B e k0 hn h
    obtain ⟨p, rfl⟩ : ∃ p, n = p + 1 := ⟨n - 1, (by first | decide | omega)⟩
    have f1 : F 7 0 1 = 1 := by rw [h.2.1 7 0 1 (by first | decide | omega)]; exact q1
    obtain ⟨F1, B1, e1, w1⟩ := C_pt (a := 46) h0 h
    obtain ⟨F2, B2, e2, w2⟩ := ih p (k + 1) _ F1 B1 (by first | decide | omega) (by first | decide | omega) (by first | decide | omega) w1
    refine ⟨F2, B2, ?_, ?_⟩
    · rw [f_Scribe_writeNote_142, if_pos (by unfold r32; omega), zr, if_pos (by unfold r32; omega), if_neg (by first | decide | omega), if_pos ⟨(by first | decide | omega), h7⟩, f1, if_pos (by first | decide | omega), e1, zb_s]
      exact e2
    · rw [List.append_assoc] at w2
      exact w2
theorem sh7 : ∀ k : Fin 24, zshl 1 (zdv (k.val : Int) 3) = zshl 1 ((k.val : Int) / 3) ∧ 0 ≤ zshl 1 ((k.val : Int) / 3) ∧ zshl 1 ((k.val : Int) / 3) < 1000 := by decide +kernel
theorem sh7e {v : Int} (h0 : 0 ≤ v) (h1 : v < 24) : zshl 1 (zdv v 3) = zshl 1 (v / 3) ∧ 0 ≤ zshl 1 (v / 3) ∧ zshl 1 (v / 3) < 1000 := by
  have := sh7 ⟨v.toNat, (by first | decide | omega)⟩
  rwa [show (((⟨v.toNat, (by first | decide | omega)⟩ : Fin 24).val : Nat) : Int) = v by show ((v.toNat : Nat) : Int) = v; omega] at this
theorem C_wn {K : zK} {q : zF × zB} {m v g : Int} {st al : Int → Int} {T : List Int} {F : zF} {B : zB} (h0 : 2 ≤ K.2 0) (h7 : 0 < K.2 7) (h1 : 0 < K.2 1) (hK : 200 ≤ K.1) (q1 : q.1 7 0 1 = 1) (q4 : q.1 7 0 4 = 0) (q10 : q.1 1 0 10 = m) (hm : 0 ≤ m ∧ m ≤ 6) (hp : ∀ k, 0 ≤ k → k < m → q.2 1 0 12 k = st k ∧ q.2 1 0 13 k = al k ∧ (0 ≤ st k ∧ st k ≤ 62) ∧ (-7 ≤ al k ∧ al k ≤ 7)) (hv : 0 ≤ v ∧ v < 24) (hg : g = 0 ∨ g = 1) (h : TC q T F B) : ∃ F' B', f_Scribe_writeNote K 0 v g F B = some (0, F', B') ∧ TC q (T ++ (ntA m st al v ++ ((if g = 1 ∧ ¬ m = 0 then [126] else []) ++ [32]))) F' B' := by
  have f4 : F 7 0 4 = 0 := by rw [h.2.1 7 0 4 (by first | decide | omega)]; exact q4
  have f10 : F 1 0 10 = m := by rw [h.2.1 1 0 10 (by first | decide | omega)]; exact q10
  -- the rest's letter
  obtain ⟨F1, B1, e1, w1⟩ : ∃ F1 B1, f_Scribe_writeNote K 0 v g F B = f_Scribe_writeNote_19 K 0 v g F1 B1 ∧ TC q (T ++ (if m = 0 then [114] else [])) F1 B1 := by
    unfold f_Scribe_writeNote f_Event_isRest f_Event_isRest_12
    have f1 : F 7 0 1 = 1 := by rw [h.2.1 7 0 1 (by first | decide | omega)]; exact q1
    rw [if_pos ⟨(by first | decide | omega), h7⟩, f4, if_pos ⟨(by first | decide | omega), h1⟩, if_pos ⟨(by first | decide | omega), h1⟩, f10, if_pos (by unfold r32; omega)]
    by_cases z : m = 0
    · obtain ⟨F1, B1, e1, w1⟩ := C_pt (a := 114) h0 h
      rw [if_pos z, if_pos (by first | decide | omega), zb_s, if_pos (by decide), if_neg (by decide), f1, if_pos (by first | decide | omega), e1, zb_s, if_pos z]
      exact ⟨F1, B1, rfl, w1⟩
    · rw [if_neg z, if_pos (by first | decide | omega), zb_s, if_pos (by decide), if_pos rfl, if_neg z, List.append_nil]
      exact ⟨F, B, rfl, h⟩
  have g1 : F1 7 0 1 = 1 := by rw [w1.2.1 7 0 1 (by first | decide | omega)]; exact q1
  have g4 : F1 7 0 4 = 0 := by rw [w1.2.1 7 0 4 (by first | decide | omega)]; exact q4
  have g10 : F1 1 0 10 = m := by rw [w1.2.1 1 0 10 (by first | decide | omega)]; exact q10
  -- the bracket
  obtain ⟨F2, B2, e2, w2⟩ : ∃ F2 B2, f_ByteRow_putText K 1 (if m ≤ 1 then 15 else 14) F1 B1 = some (0, F2, B2) ∧ TC q (T ++ (if m = 0 then [114] else []) ++ (if 1 < m then [60] else [])) F2 B2 := by
    by_cases z : m ≤ 1
    · rw [if_pos z, if_neg (show ¬ 1 < m by omega)]
      exact C_strg h0 hK (by decide) (by decide) (by decide) (by decide) w1
    · rw [if_neg z, if_pos (show 1 < m by omega)]
      exact C_strg h0 hK (by decide) (by decide) (by decide) (by decide) w1
  have e19 : f_Scribe_writeNote_19 K 0 v g F1 B1 = f_Scribe_writeNote_46 K K.1 0 0 v g F2 B2 := by
    unfold f_Scribe_writeNote_19
    rw [if_pos ⟨(by first | decide | omega), h7⟩, g4, if_pos ⟨(by first | decide | omega), h1⟩, g10, if_pos (by unfold r32; omega), g1]
    have : f_Scribe_writeNote_41 K 0 v g 1 (if m ≤ 1 then 15 else 14) F1 B1 = f_Scribe_writeNote_46 K K.1 0 0 v g F2 B2 := by
      unfold f_Scribe_writeNote_41
      rw [if_pos (by first | decide | omega), e2, zb_s]
    rw [← this]
    by_cases z : m ≤ 1
    · rw [if_pos z, if_pos z]
    · rw [if_neg z, if_neg z]
  obtain ⟨F3, B3, e3, w3⟩ := C_wn46 (v := v) (g := g) h0 h7 h1 hK q1 q4 q10 hm hp m.toNat K.1 0 _ F2 B2 (by first | decide | omega) (by first | decide | omega) (by first | decide | omega) w2
  obtain ⟨F4, B4, e4, w4⟩ : ∃ F4 B4, f_ByteRow_putText K 1 (if m ≤ 1 then 18 else 17) F3 B3 = some (0, F4, B4) ∧ TC q (T ++ (if m = 0 then [114] else []) ++ (if 1 < m then [60] else []) ++ chT st al m.toNat 0 ++ ((if 1 < m then [62] else []) ++ [58])) F4 B4 := by
    by_cases z : m ≤ 1
    · rw [if_pos z, if_neg (show ¬ 1 < m by omega), if_neg (show ¬ 1 < m by omega)]
      rw [if_neg (show ¬ 1 < m by omega)] at w3
      exact C_strg h0 hK (by decide) (by decide) (by decide) (by decide) w3
    · rw [if_neg z, if_pos (show 1 < m by omega), if_pos (show 1 < m by omega)]
      rw [if_pos (show 1 < m by omega)] at w3
      exact C_strg h0 hK (by decide) (by decide) (by decide) (by decide) w3
  have s7 := sh7e hv.1 hv.2
  obtain ⟨F5, B5, e5, w5⟩ := C_dec h0 hK s7.2 w4
  obtain ⟨F6, B6, e6, w6⟩ := C_wn142 h0 h7 h1 hK q1 q4 q10 hm hv hg (2 - v % 3).toNat K.1 0 _ F5 B5 (by first | decide | omega) (by first | decide | omega) (by first | decide | omega) w5
  refine ⟨F6, B6, ?_, ?_⟩
  · have k1 : F4 7 0 1 = 1 := by rw [w4.2.1 7 0 1 (by first | decide | omega)]; exact q1
    rw [e1, e19, e3]
    unfold f_Scribe_writeNote_125
    rw [if_pos (by first | decide | omega), e4, zb_s, if_pos ⟨(by first | decide | omega), h7⟩, k1, if_pos (by first | decide | omega), s7.1, e5, zb_s, e6]
  · unfold ntA
    simp only [List.append_assoc, List.cons_append, List.nil_append] at w6 ⊢
    exact w6
end
end
section
section
/-! ===== the text of a note, the reference ===== -/
theorem rptT_l {c : Int} : ∀ d : Nat, (rptT c d).length = d := by
  intro d
  induction d with
  | zero => rfl
  | succ d ih => rw [rptT, List.length_cons, ih]
theorem decT_l {v : Int} : (decT v).length ≤ 3 ∧ 1 ≤ (decT v).length := by
  unfold decT
  split
  · simp
  · split <;> simp
theorem if_l {c : Prop} [Decidable c] {x : Int} : (if c then [x] else ([] : List Int)).length ≤ 1 := by
  split <;> simp
theorem pitT_l {s a : Int} (ha : -7 ≤ a ∧ a ≤ 7) : (pitT s a).length ≤ 9 := by
  unfold pitT
  rw [List.length_cons, List.length_append, rptT_l, List.length_singleton]
  split <;> omega
theorem chT_l {st al : Int → Int} : ∀ (d : Nat) (k : Int), (∀ j, k ≤ j → j < k + d → -7 ≤ al j ∧ al j ≤ 7) → (chT st al d k).length ≤ 10 * d := by
  intro d
  induction d with
  | zero => intro k _; exact Nat.zero_le _
  | succ d ih =>
    intro k h
    have := ih (k + 1) (fun j a b => h j (by first | decide | omega) (by first | decide | omega))
    have p := pitT_l (s := st k) (h k (by first | decide | omega) (by first | decide | omega))
    have i := if_l (c := 0 < k) (x := 32)
    rw [chT, List.length_append, List.length_append]
    omega
section
variable {Km : Nat} {q : zF × zB} {w v i m vv last : Int} {st al : Int → Int}
theorem M_161 {rec' : Int → Int → Int → Int → Int → zF → zB → zO} {s a l7 l6 l5 l4 l3 : Int} (hK : 200 ≤ Km) (hs : 0 ≤ s ∧ s ≤ 62) (ha : -7 ≤ a ∧ a ≤ 7) : ∀ (d n : Nat) (k : Int) (T : List Int) (F : zF) (B : zB), k + d = (if 0 < a then 0 else -a) → 0 ≤ k → d < n → T.length < 15000 - d → TM q T F B → ∃ F' B', f_M_downNote_161 rec' Km n k a s l7 l6 l5 l4 l3 F B = rec' (l7 + 1) l6 l5 l4 l3 F' B' ∧ TM q (T ++ (rptT 98 d ++ [48 + s / 7])) F' B' := by
  have zd : zdv s 7 = s / 7 := zdv_e hs.1 (by unfold r32; omega) (by decide) (by decide)
  intro d
  induction d with
  | zero =>
    intro n k T F B e k0 hn hl h
    obtain ⟨p, rfl⟩ : ∃ p, n = p + 1 := ⟨n - 1, (by first | decide | omega)⟩
    obtain ⟨F1, B1, e1, w1⟩ := M_dec (Km := Km) (v := s / 7) hK (by first | decide | omega) (by first | decide | omega) h
    have dt : decT (s / 7) = [48 + s / 7] := by unfold decT; rw [if_pos (by first | decide | omega), show s / 7 % 10 = s / 7 by omega]
    rw [dt] at w1
    refine ⟨F1, B1, ?_, w1⟩
    rw [f_M_downNote_161, if_pos (by unfold r32; split at e <;> omega), if_pos (by unfold r32; omega), if_pos (by split at e <;> omega), zd, e1, zb_s]
  | succ d ih =>
    intro n k T F B e k0 hn hl h
    obtain ⟨p, rfl⟩ : ∃ p, n = p + 1 := ⟨n - 1, (by first | decide | omega)⟩
    obtain ⟨F1, B1, e1, w1⟩ := M_pt (Km := Km) (a := 98) (by first | decide | omega) h
    obtain ⟨F2, B2, e2, w2⟩ := ih p (k + 1) _ F1 B1 (by first | decide | omega) (by first | decide | omega) (by first | decide | omega) (by rw [List.length_append, List.length_singleton]; omega) w1
    refine ⟨F2, B2, ?_, ?_⟩
    · rw [f_M_downNote_161, if_pos (by unfold r32; split at e <;> omega), if_pos (by unfold r32; omega), if_neg (by split at e <;> omega), e1, zb_s]
      exact e2
    · rw [List.append_assoc] at w2
      exact w2
theorem M_139 {rec' : Int → Int → Int → Int → Int → zF → zB → zO} {s a l7 l6 l5 l4 l3 : Int} (hK : 200 ≤ Km) (hs : 0 ≤ s ∧ s ≤ 62) (ha : -7 ≤ a ∧ a ≤ 7) : ∀ (d n : Nat) (k : Int) (T : List Int) (F : zF) (B : zB), k + d = (if 0 < a then a else 0) → 0 ≤ k → d < n → T.length < 14900 - d → TM q T F B → ∃ F' B', f_M_downNote_139 rec' Km n k a s l7 l6 l5 l4 l3 F B = rec' (l7 + 1) l6 l5 l4 l3 F' B' ∧ TM q (T ++ (rptT 35 d ++ (rptT 98 (if 0 < a then 0 else -a).toNat ++ [48 + s / 7]))) F' B' := by
  intro d
  induction d with
  | zero =>
    intro n k T F B e k0 hn hl h
    obtain ⟨p, rfl⟩ : ∃ p, n = p + 1 := ⟨n - 1, (by first | decide | omega)⟩
    obtain ⟨F1, B1, e1, w1⟩ := M_161 (rec' := rec') (l7 := l7) (l6 := l6) (l5 := l5) (l4 := l4) (l3 := l3) hK hs ha (if 0 < a then 0 else -a).toNat Km 0 T F B (by split <;> omega) (by first | decide | omega) (by split <;> omega) (by split <;> omega) h
    refine ⟨F1, B1, ?_, w1⟩
    rw [f_M_downNote_139, if_pos (by unfold r32; split at e <;> omega), if_pos (by unfold r32; omega), if_pos (by split at e <;> omega), e1]
  | succ d ih =>
    intro n k T F B e k0 hn hl h
    obtain ⟨p, rfl⟩ : ∃ p, n = p + 1 := ⟨n - 1, (by first | decide | omega)⟩
    obtain ⟨F1, B1, e1, w1⟩ := M_pt (Km := Km) (a := 35) (by first | decide | omega) h
    obtain ⟨F2, B2, e2, w2⟩ := ih p (k + 1) _ F1 B1 (by first | decide | omega) (by first | decide | omega) (by first | decide | omega) (by rw [List.length_append, List.length_singleton]; omega) w1
    refine ⟨F2, B2, ?_, ?_⟩
    · rw [f_M_downNote_139, if_pos (by unfold r32; split at e <;> omega), if_pos (by unfold r32; omega), if_neg (by split at e <;> omega), e1, zb_s]
      exact e2
    · rw [List.append_assoc] at w2
      exact w2
theorem pit_e {s a : Int} : zsc 47 (s % 7) :: (rptT 35 (if 0 < a then a else 0).toNat ++ (rptT 98 (if 0 < a then 0 else -a).toNat ++ [48 + s / 7])) = pitT s a := by
  unfold pitT
  by_cases z : 0 < a
  · rw [if_pos z, if_pos z, if_pos z, if_pos z]; rfl
  · rw [if_neg z, if_neg z, if_neg z, if_neg z]; rfl
theorem M_121 {rec' : Int → Int → Int → Int → Int → zF → zB → zO} {s a l7 l6 l5 l4 l3 : Int} {T : List Int} {F : zF} {B : zB} (hK : 200 ≤ Km) (hs : 0 ≤ s ∧ s ≤ 62) (ha : -7 ≤ a ∧ a ≤ 7) (hl : T.length < 14000) (h : TM q T F B) : ∃ F' B', f_M_downNote_121 rec' Km a s l7 l6 l5 l4 l3 F B = rec' (l7 + 1) l6 l5 l4 l3 F' B' ∧ TM q (T ++ pitT s a) F' B' := by
  have l47 : zsl 47 = 7 := by decide
  have zr : zrm s 7 = s % 7 := zrm_e hs.1 (by unfold r32; omega) (by decide) (by decide)
  obtain ⟨F1, B1, e1, w1⟩ := M_pt (Km := Km) (a := zsc 47 (s % 7)) (by first | decide | omega) h
  obtain ⟨F2, B2, e2, w2⟩ := M_139 (rec' := rec') (l7 := l7) (l6 := l6) (l5 := l5) (l4 := l4) (l3 := l3) hK hs ha (if 0 < a then a else 0).toNat Km 0 _ F1 B1 (by split <;> omega) (by first | decide | omega) (by split <;> omega) (by rw [List.length_append, List.length_singleton]; split <;> omega) w1
  refine ⟨F2, B2, ?_, ?_⟩
  · unfold f_M_downNote_121
    rw [zr, L_schar (by decide) (by first | decide | omega) (by first | decide | omega) (by first | decide | omega), zb_s, e1, zb_s, e2]
  · rw [List.append_assoc, List.singleton_append, pit_e] at w2
    exact w2
theorem M_67 {x l4 : Int} (hK : 200 ≤ Km) (hw : q.1 14 0 6 = w ∧ 0 ≤ w ∧ w < 3) (hx : 0 < m → 0 ≤ x ∧ x < 4000) (hm : 0 ≤ m ∧ m ≤ 6) (hp : ∀ k, 0 ≤ k → k < m → q.2 13 w 28 (6 * x + k) = st k ∧ q.2 13 w 29 (6 * x + k) = al k ∧ (0 ≤ st k ∧ st k ≤ 62) ∧ (-7 ≤ al k ∧ al k ≤ 7)) : ∀ (d n : Nat) (k : Int) (T : List Int) (F : zF) (B : zB), k + d = m → 0 ≤ k → d < n → T.length < 13000 - 10 * d → TM q T F B → ∃ F' B', f_M_downNote_67 Km n k m x l4 last F B = f_M_downNote_208 Km m l4 last F' B' ∧ TM q (T ++ (chT st al d k ++ (if 1 < m then [62] else []))) F' B' := by
  intro d
  induction d with
  | zero =>
    intro n k T F B e k0 hn hl h
    obtain ⟨p, rfl⟩ : ∃ p, n = p + 1 := ⟨n - 1, (by first | decide | omega)⟩
    rw [f_M_downNote_67, if_pos (by unfold r32; omega), if_pos (by unfold r32; omega), if_pos (by first | decide | omega), chT]
    by_cases z : m ≤ 1
    · rw [if_pos z, if_neg (show ¬ 1 < m by omega), List.nil_append, List.append_nil]
      exact ⟨F, B, rfl, h⟩
    · obtain ⟨F1, B1, e1, w1⟩ := M_pt (Km := Km) (a := 62) (by first | decide | omega) h
      rw [if_neg z, if_pos (show 1 < m by omega), e1, zb_s, List.nil_append]
      exact ⟨F1, B1, rfl, w1⟩
  | succ d ih =>
    intro n k T F B e k0 hn hl h
    obtain ⟨p, rfl⟩ : ∃ p, n = p + 1 := ⟨n - 1, (by first | decide | omega)⟩
    obtain ⟨p1, p2, p3, p4⟩ := hp k k0 (by first | decide | omega)
    have f6 : F 14 0 6 = w := by rw [h.2.1 14 0 6 (by first | decide | omega)]; exact hw.1
    have hx' := hx (by first | decide | omega)
    obtain ⟨F1, B1, e1, w1⟩ : ∃ F1 B1, (if k ≤ 0 then f_M_downNote_121 (f_M_downNote_67 Km p) Km (al k) (st k) k m x l4 last F B else zbind (f_M_put_0 Km 32 F B) (fun r21 F21 B21 => f_M_downNote_121 (f_M_downNote_67 Km p) Km (al k) (st k) k m x l4 last F21 B21)) = f_M_downNote_121 (f_M_downNote_67 Km p) Km (al k) (st k) k m x l4 last F1 B1 ∧ TM q (T ++ (if 0 < k then [32] else [])) F1 B1 := by
      by_cases z : k ≤ 0
      · rw [if_pos z, if_neg (by first | decide | omega), List.append_nil]; exact ⟨F, B, rfl, h⟩
      · obtain ⟨F1, B1, e1, w1⟩ := M_pt (Km := Km) (a := 32) (by first | decide | omega) h
        rw [if_neg z, if_pos (by first | decide | omega), e1, zb_s]; exact ⟨F1, B1, rfl, w1⟩
    have il := if_l (c := 0 < k) (x := 32)
    have pl := pitT_l (s := st k) p4
    obtain ⟨F2, B2, e2, w2⟩ := M_121 (rec' := f_M_downNote_67 Km p) (l7 := k) (l6 := m) (l5 := x) (l4 := l4) (l3 := last) hK p3 p4 (by rw [List.length_append]; omega) w1
    obtain ⟨F3, B3, e3, w3⟩ := ih p (k + 1) _ F2 B2 (by first | decide | omega) (by first | decide | omega) (by first | decide | omega) (by rw [List.length_append, List.length_append]; omega) w2
    refine ⟨F3, B3, ?_, ?_⟩
    · rw [f_M_downNote_67, if_pos (by unfold r32; omega), if_pos (by unfold r32; omega), if_neg (by first | decide | omega), f6, if_pos hw.2, if_pos (by first | decide | omega), h.2.2 13 w 28 _ (by first | decide | omega), h.2.2 13 w 29 _ (by first | decide | omega), p1, p2, e1, e2, e3]
    · rw [chT]
      simp only [List.append_assoc] at w3 ⊢
      exact w3
theorem M_233 {l4 : Int} (hw : q.1 14 0 6 = w ∧ 0 ≤ w ∧ w < 3) (h4 : 0 ≤ l4 ∧ l4 < 3200) (hm : 0 ≤ m ∧ m ≤ 6) (hv : 0 ≤ vv ∧ vv < 24) (h35 : q.2 13 w 35 l4 = 2 - vv % 3) (hl : last = 0 ∨ last = 1) (hn : last = 0 → l4 + 1 < 3200 ∧ r32 (q.2 13 w 30 (l4 + 1)) ∧ r32 (q.2 13 w 30 l4) ∧ r32 (q.2 13 w 31 (l4 + 1)) ∧ r32 (q.2 13 w 31 l4)) : ∀ (d n : Nat) (k : Int) (T : List Int) (F : zF) (B : zB), k + d = 2 - vv % 3 → 0 ≤ k → d < n → T.length < 13500 - d → TM q T F B → ∃ F' B', f_M_downNote_233 Km n k m l4 last F B = some (0, F', B') ∧ TM q (T ++ (rptT 46 d ++ ((if 0 < m ∧ last = 0 ∧ q.2 13 w 30 (l4 + 1) = q.2 13 w 30 l4 then [126] else []) ++ (32 :: (if last = 0 ∧ q.2 13 w 31 (l4 + 1) = q.2 13 w 31 l4 then [] else [124, 10]))))) F' B' := by
  have e300 : ∀ (T : List Int) (F : zF) (B : zB), T.length < 14000 → TM q T F B → ∃ F' B', f_M_downNote_300 Km l4 last F B = some (0, F', B') ∧ TM q (T ++ (32 :: (if last = 0 ∧ q.2 13 w 31 (l4 + 1) = q.2 13 w 31 l4 then [] else [124, 10]))) F' B' := by
    intro T F B ht h
    obtain ⟨F1, B1, e1, w1⟩ := M_pt (Km := Km) (a := 32) (by first | decide | omega) h
    have g6 : F1 14 0 6 = w := by rw [w1.2.1 14 0 6 (by first | decide | omega)]; exact hw.1
    have e336 : ∃ F' B', f_M_downNote_336 Km F1 B1 = some (0, F', B') ∧ TM q (T ++ (32 :: [124, 10])) F' B' := by
      obtain ⟨F2, B2, e2, w2⟩ := M_pt (Km := Km) (a := 124) (by rw [List.length_append, List.length_singleton]; omega) w1
      obtain ⟨F3, B3, e3, w3⟩ := M_pt (Km := Km) (a := 10) (by rw [List.length_append, List.length_append, List.length_singleton, List.length_singleton]; omega) w2
      refine ⟨F3, B3, ?_, ?_⟩
      · unfold f_M_downNote_336
        rw [e2, zb_s, e3, zb_s]
      · simp only [List.append_assoc, List.singleton_append] at w3
        exact w3
    unfold f_M_downNote_300
    rw [e1, zb_s, if_pos (by unfold r32; omega)]
    by_cases z : last = 0
    · obtain ⟨n1, n2, n3, n4, n5⟩ := hn z
      rw [if_pos z, g6, if_pos hw.2, if_pos (by first | decide | omega), if_pos h4, w1.2.2 13 w 31 _ (by first | decide | omega), w1.2.2 13 w 31 _ (by first | decide | omega), if_pos n4, if_pos n5]
      by_cases y : q.2 13 w 31 (l4 + 1) = q.2 13 w 31 l4
      · rw [if_pos y, if_pos ⟨z, y⟩]; exact ⟨F1, B1, rfl, w1⟩
      · rw [if_neg y, if_neg (fun c => y c.2)]; exact e336
    · rw [if_neg z, if_neg (fun c => z c.1)]; exact e336
  intro d
  induction d with
  | zero =>
    intro n k T F B e k0 hn' ht h
    obtain ⟨p, rfl⟩ : ∃ p, n = p + 1 := ⟨n - 1, (by first | decide | omega)⟩
    have f6 : F 14 0 6 = w := by rw [h.2.1 14 0 6 (by first | decide | omega)]; exact hw.1
    rw [f_M_downNote_233, f6, if_pos hw.2, if_pos h4, if_pos (by unfold r32; omega), h.2.2 13 w 35 _ (by first | decide | omega), h35, if_pos (by unfold r32; omega), if_pos (by first | decide | omega), if_pos (by unfold r32; omega), rptT, List.nil_append]
    by_cases z : m ≤ 0
    · rw [if_pos z, if_neg (show ¬ (0 < m ∧ _ ∧ _) from fun c => by have := c.1; omega), List.nil_append]
      exact e300 T F B (by first | decide | omega) h
    · rw [if_neg z, if_pos (by unfold r32; omega)]
      by_cases y : last = 0
      · obtain ⟨n1, n2, n3, n4, n5⟩ := hn y
        rw [if_pos y, if_pos (by first | decide | omega), h.2.2 13 w 30 _ (by first | decide | omega), h.2.2 13 w 30 _ (by first | decide | omega), if_pos n2, if_pos n3]
        by_cases u : q.2 13 w 30 (l4 + 1) = q.2 13 w 30 l4
        · obtain ⟨F1, B1, e1, w1⟩ := M_pt (Km := Km) (a := 126) (by first | decide | omega) h
          obtain ⟨F2, B2, e2, w2⟩ := e300 _ F1 B1 (by rw [List.length_append, List.length_singleton]; omega) w1
          rw [if_pos u, if_pos (show 0 < m ∧ last = 0 ∧ _ from ⟨(by first | decide | omega), y, u⟩), e1, zb_s]
          refine ⟨F2, B2, e2, ?_⟩
          rw [List.append_assoc] at w2
          exact w2
        · rw [if_neg u, if_neg (show ¬ (0 < m ∧ last = 0 ∧ _) from fun c => u c.2.2), List.nil_append]
          exact e300 T F B (by first | decide | omega) h
      · rw [if_neg y, if_neg (show ¬ (0 < m ∧ last = 0 ∧ _) from fun c => y c.2.1), List.nil_append]
        exact e300 T F B (by first | decide | omega) h
  | succ d ih =>
    intro n k T F B e k0 hn' ht h
    obtain ⟨p, rfl⟩ : ∃ p, n = p + 1 := ⟨n - 1, (by first | decide | omega)⟩
    have f6 : F 14 0 6 = w := by rw [h.2.1 14 0 6 (by first | decide | omega)]; exact hw.1
    obtain ⟨F1, B1, e1, w1⟩ := M_pt (Km := Km) (a := 46) (by first | decide | omega) h
    obtain ⟨F2, B2, e2, w2⟩ := ih p (k + 1) _ F1 B1 (by first | decide | omega) (by first | decide | omega) (by first | decide | omega) (by rw [List.length_append, List.length_singleton]; omega) w1
    refine ⟨F2, B2, ?_, ?_⟩
    · rw [f_M_downNote_233, f6, if_pos hw.2, if_pos h4, if_pos (by unfold r32; omega), h.2.2 13 w 35 _ (by first | decide | omega), h35, if_pos (by unfold r32; omega), if_neg (by first | decide | omega), e1, zb_s]
      exact e2
    · rw [List.append_assoc] at w2
      exact w2
/-- a note of the reference; its event has m tones -/
theorem M_dn {x : Int} {T : List Int} {F : zF} {B : zB} (hK : 200 ≤ Km) (hw : q.1 14 0 6 = w ∧ 0 ≤ w ∧ w < 3) (v0 : 0 ≤ v ∧ v < 4) (i0 : 0 ≤ i ∧ i < 800) (he : -1 ≤ q.2 13 w 30 (800 * v + i) ∧ q.2 13 w 30 (800 * v + i) < 1000) (hx : x = 1000 * v + q.2 13 w 30 (800 * v + i)) (hme : m = if q.2 13 w 30 (800 * v + i) < 0 then 0 else q.2 13 w 21 x) (hm : 0 ≤ m ∧ m ≤ 6) (hp : ∀ k, 0 ≤ k → k < m → q.2 13 w 28 (6 * x + k) = st k ∧ q.2 13 w 29 (6 * x + k) = al k ∧ (0 ≤ st k ∧ st k ≤ 62) ∧ (-7 ≤ al k ∧ al k ≤ 7)) (hv : 0 ≤ vv ∧ vv < 24) (h34 : q.2 13 w 34 (800 * v + i) = vv / 3) (h35 : q.2 13 w 35 (800 * v + i) = 2 - vv % 3) (hl : last = 0 ∨ last = 1) (hn : last = 0 → i < 799 ∧ r32 (q.2 13 w 30 (800 * v + i + 1)) ∧ r32 (q.2 13 w 31 (800 * v + i + 1)) ∧ r32 (q.2 13 w 31 (800 * v + i))) (ht : T.length ≤ 3000) (h : TM q T F B) : ∃ F' B', f_M_downNote Km v i last F B = some (0, F', B') ∧ TM q (T ++ (ntA m st al vv ++ ((if 0 < m ∧ last = 0 ∧ q.2 13 w 30 (800 * v + i + 1) = q.2 13 w 30 (800 * v + i) then [126] else []) ++ (32 :: (if last = 0 ∧ q.2 13 w 31 (800 * v + i + 1) = q.2 13 w 31 (800 * v + i) then [] else [124, 10]))))) F' B' := by
  have f6 : F 14 0 6 = w := by rw [h.2.1 14 0 6 (by first | decide | omega)]; exact hw.1
  have s7 := sh7e hv.1 hv.2
  obtain ⟨y, ey, em⟩ : ∃ y, f_M_downNote Km v i last F B = f_M_downNote_39 Km y (800 * v + i) last m F B ∧ (0 < m → y = x) := by
    unfold f_M_downNote f_M_sounding f_M_sounding_32 f_M_sounding_43
    rw [f6, if_pos hw.2, if_pos hw.2, if_pos (by first | decide | omega), h.2.2 13 w 30 _ (by first | decide | omega), if_pos (by unfold r32; omega)]
    by_cases z : q.2 13 w 30 (800 * v + i) < 0
    · rw [if_pos z, zb_s, if_pos (by decide), if_neg (by decide)]
      rw [if_pos z] at hme
      exact ⟨-1, by rw [hme], fun c => (by first | decide | omega)⟩
    · rw [if_neg z] at hme
      rw [if_neg z, if_pos (by first | decide | omega), h.2.2 13 w 21 _ (by first | decide | omega), ← hx, ← hme, if_pos (by unfold r32; omega)]
      by_cases u : m = 0
      · rw [if_pos u, zb_s, if_pos (by decide), if_neg (by decide)]
        exact ⟨-1, by rw [u], fun c => (by first | decide | omega)⟩
      · rw [if_neg u, zb_s, if_pos (by unfold r32; omega), if_pos (by first | decide | omega), f6, if_pos hw.2, if_pos (by first | decide | omega), h.2.2 13 w 21 _ (by first | decide | omega), ← hme]
        exact ⟨x, rfl, fun _ => rfl⟩
  rw [ey]
  obtain ⟨F1, B1, e1, w1⟩ : ∃ F1 B1, f_M_downNote_39 Km y (800 * v + i) last m F B = f_M_downNote_52 Km m y (800 * v + i) last F1 B1 ∧ TM q (T ++ (if m = 0 then [114] else [])) F1 B1 := by
    unfold f_M_downNote_39
    rw [if_pos (by unfold r32; omega)]
    by_cases z : m = 0
    · obtain ⟨F1, B1, e1, w1⟩ := M_pt (Km := Km) (a := 114) (by first | decide | omega) h
      rw [if_pos z, if_pos z, e1, zb_s]; exact ⟨F1, B1, rfl, w1⟩
    · rw [if_neg z, if_neg z, List.append_nil]; exact ⟨F, B, rfl, h⟩
  have l1 := if_l (c := m = 0) (x := 114)
  have l2 := if_l (c := 1 < m) (x := 60)
  have l3 := if_l (c := 1 < m) (x := 62)
  obtain ⟨F2, B2, e2, w2⟩ : ∃ F2 B2, f_M_downNote_52 Km m y (800 * v + i) last F1 B1 = f_M_downNote_67 Km Km 0 m y (800 * v + i) last F2 B2 ∧ TM q (T ++ (if m = 0 then [114] else []) ++ (if 1 < m then [60] else [])) F2 B2 := by
    unfold f_M_downNote_52 f_M_downNote_64
    rw [if_pos (by unfold r32; omega)]
    by_cases z : m ≤ 1
    · rw [if_pos z, if_neg (show ¬ 1 < m by omega), List.append_nil]; exact ⟨F1, B1, rfl, w1⟩
    · obtain ⟨F2, B2, e2, w2⟩ := M_pt (Km := Km) (a := 60) (by rw [List.length_append]; omega) w1
      rw [if_neg z, if_pos (show 1 < m by omega), e2, zb_s]; exact ⟨F2, B2, rfl, w2⟩
  have hy : 0 < m → 0 ≤ y ∧ y < 4000 := fun c => by
    rw [em c]
    by_cases z : q.2 13 w 30 (800 * v + i) < 0
    · rw [if_pos z] at hme; omega
    · omega
  obtain ⟨F3, B3, e3, w3⟩ := M_67 (x := y) (l4 := 800 * v + i) (last := last) (st := st) (al := al) hK hw hy hm (fun k k0 k1 => by rw [em (by first | decide | omega)]; exact hp k k0 k1) m.toNat Km 0 _ F2 B2 (by first | decide | omega) (by first | decide | omega) (by first | decide | omega) (by rw [List.length_append, List.length_append]; omega) w2
  have cl := chT_l (st := st) (al := al) m.toNat 0 (fun j a b => (hp j a (by first | decide | omega)).2.2.2)
  obtain ⟨F4, B4, e4, w4⟩ := M_pt (Km := Km) (a := 58) (by simp only [List.length_append]; omega) w3
  have g6 : F4 14 0 6 = w := by rw [w4.2.1 14 0 6 (by first | decide | omega)]; exact hw.1
  obtain ⟨F5, B5, e5, w5⟩ := M_dec (Km := Km) hK s7.2 (by simp only [List.length_append, List.length_singleton]; omega) w4
  have dl := decT_l (v := zshl 1 (vv / 3))
  obtain ⟨F6, B6, e6, w6⟩ := M_233 (Km := Km) (l4 := 800 * v + i) (m := m) (last := last) hw (by first | decide | omega) hm hv h35 hl (fun c => by
    obtain ⟨n1, n2, n3, n4⟩ := hn c
    exact ⟨(by first | decide | omega), n2, by unfold r32; omega, n3, n4⟩) (2 - vv % 3).toNat Km 0 _ F5 B5 (by first | decide | omega) (by first | decide | omega) (by first | decide | omega) (by simp only [List.length_append, List.length_singleton]; omega) w5
  refine ⟨F6, B6, ?_, ?_⟩
  · rw [e1, e2, e3]
    unfold f_M_downNote_208
    rw [e4, zb_s, g6, if_pos hw.2, if_pos (by first | decide | omega), w4.2.2 13 w 34 _ (by first | decide | omega), h34, e5, zb_s, e6]
  · unfold ntA
    simp only [List.append_assoc, List.cons_append, List.nil_append, List.singleton_append] at w6 ⊢
    exact w6
end
end
end
section
section
/-! ===== spans of notes ===== -/
theorem fv_t : ∀ k : Fin 18, fv (k.val : Int) % 16 = 0 ∨ (k.val : Int) = 12 ∨ (k.val : Int) = 15 ∨ (k.val : Int) = 16 := by decide +kernel
theorem fv_g : ∀ k : Fin 18, 16 ≤ fv (k.val : Int) := by decide +kernel
theorem st_1 {n d a : Int} : 1 ≤ st n d a := by
  unfold st st5
  repeat' split
  all_goals omega
theorem mx_1 {a b : Int} (h : 1 ≤ b) : 1 ≤ mx a b := by unfold mx; split <;> omega
theorem bt_16 {n f : Int} (f16 : f % 16 = 0) : bt n 2 f (f + 16) = 1 := by
  unfold bt bt5 bc bw
  simp only [show (512 : Int) / 2 = 256 from rfl, show (256 : Int) / 2 = 128 from rfl, show (256 : Int) / 4 = 64 from rfl, show (256 : Int) / 8 = 32 from rfl, show (256 : Int) / 16 = 16 from rfl, show ¬ (8 : Int) ≤ 2 by decide, show (2 : Int) ≤ 4 by decide, false_and, if_false, if_true, Int.mul_one]
  rw [if_neg (by first | decide | omega), if_neg (by first | decide | omega), if_neg (by first | decide | omega), if_neg (by first | decide | omega), if_neg (by first | decide | omega), if_neg (by first | decide | omega), if_neg (by first | decide | omega)]
theorem bt_xy {n f x y : Int} (f16 : f % 16 = 0) (h : (x = 56 ∧ y = 64) ∨ (x = 28 ∧ y = 32) ∨ (x = 24 ∧ y = 32)) : bt n 2 f (f + y) = bt n 2 f (f + x) := by
  unfold bt bt5 bc bw
  simp only [show (512 : Int) / 2 = 256 from rfl, show (256 : Int) / 2 = 128 from rfl, show (256 : Int) / 4 = 64 from rfl, show (256 : Int) / 8 = 32 from rfl, show (256 : Int) / 16 = 16 from rfl, show ¬ (8 : Int) ≤ 2 by decide, show (2 : Int) ≤ 4 by decide, false_and, if_false, if_true, Int.mul_one]
  have h0 : (n % 2 = 0 ∧ 2 * f < 256 * n ∧ 256 * n < 2 * (f + y)) ↔ (n % 2 = 0 ∧ 2 * f < 256 * n ∧ 256 * n < 2 * (f + x)) := by omega
  have h1 : ((f / 256 + 1) * 256 < f + y) ↔ ((f / 256 + 1) * 256 < f + x) := by omega
  have h2 : ((f / 128 + 1) * 128 < f + y) ↔ ((f / 128 + 1) * 128 < f + x) := by omega
  have h3 : ((f / 64 + 1) * 64 < f + y) ↔ ((f / 64 + 1) * 64 < f + x) := by omega
  have h4 : ((f / 32 + 1) * 32 < f + y) ↔ ((f / 32 + 1) * 32 < f + x) := by omega
  have h5 : ((f / 16 + 1) * 16 < f + y) ↔ ((f / 16 + 1) * 16 < f + x) := by omega
  simp only [h0, h1, h2, h3, h4, h5]
theorem st_x {n a : Int} (h : ¬ a % 16 = 0) : st n 2 a = 1 := by
  unfold st st5 bc
  simp only [show (512 : Int) / 2 = 256 from rfl, show (256 : Int) / 2 = 128 from rfl, show (256 : Int) / 4 = 64 from rfl, show (256 : Int) / 8 = 32 from rfl, show (256 : Int) / 16 = 16 from rfl, show ¬ (8 : Int) ≤ 2 by decide, show (2 : Int) ≤ 4 by decide, false_and, if_false, if_true, Int.mul_one]
  rw [if_neg (by first | decide | omega), if_neg (by first | decide | omega), if_neg (by first | decide | omega), if_neg (by first | decide | omega), if_neg (by first | decide | omega), if_neg (by first | decide | omega), if_neg (by first | decide | omega), if_neg h]
theorem nv_16 {n f l : Int} (f16 : f % 16 = 0) (l0 : 0 < l) (l16 : l % 16 = 0) : fv (nvF n 2 f l) ≤ l ∧ fv (nvF n 2 f l) % 16 = 0 ∧ 16 ≤ fv (nvF n 2 f l) := by
  have v17 : fv 17 = 16 := by decide
  have p17 : decide (fv 17 ≤ l ∧ stnd n 2 f 17) = true := by
    refine decide_eq_true ⟨(by first | decide | omega), ?_⟩
    show bt n 2 f (f + fv 17) ≤ _
    rw [v17, bt_16 f16]
    exact mx_1 st_1
  unfold nvF
  generalize hk : fsN (fun k => decide (fv k ≤ l ∧ stnd n 2 f k)) 24 0 = k
  have nn := fsN_n (P := fun k => decide (fv k ≤ l ∧ stnd n 2 f k)) 24 (k := 0) (Int.le_refl _)
  rw [hk] at nn
  have k17 : k ≤ 17 ∧ 0 ≤ k := by
    refine ⟨?_, ?_⟩
    · rcases Int.lt_or_le 17 k with z | z
      · have := nn 17 (by first | decide | omega) (by first | decide | omega) (Or.inl z)
        have : false = true := this.symm.trans p17
        exact absurd this (by decide)
      · exact z
    · rcases Int.lt_or_le k 0 with z | z
      · have := nn 17 (by first | decide | omega) (by first | decide | omega) (Or.inr z)
        have : false = true := this.symm.trans p17
        exact absurd this (by decide)
      · exact z
  have hP : fv k ≤ l ∧ stnd n 2 f k := by
    rcases fsN_r (P := fun k => decide (fv k ≤ l ∧ stnd n 2 f k)) 24 (k := 0) (Int.le_refl _) with h | ⟨_, _, h⟩
    · rw [hk] at h; omega
    · rw [hk] at h; exact of_decide_eq_true h
  rw [if_neg (by first | decide | omega)]
  have fg := fv_g ⟨k.toNat, (by first | decide | omega)⟩
  have ft := fv_t ⟨k.toNat, (by first | decide | omega)⟩
  rw [show (((⟨k.toNat, (by first | decide | omega)⟩ : Fin 18).val : Nat) : Int) = k by show ((k.toNat : Nat) : Int) = k; omega] at fg ft
  refine ⟨hP.1, ?_, fg⟩
  have up : ∀ (x y j : Int), (x = 56 ∧ y = 64) ∨ (x = 28 ∧ y = 32) ∨ (x = 24 ∧ y = 32) → fv k = x → fv j = y → 0 ≤ j → j < k → False := fun x y j h hx hy j0 j1 => by
    have z := nn j (by first | decide | omega) (by first | decide | omega) (Or.inl j1)
    have hs : stnd n 2 f j := by
      show bt n 2 f (f + fv j) ≤ mx (st n 2 f) (st n 2 (f + fv j))
      have e2 : bt n 2 f (f + fv k) ≤ mx (st n 2 f) (st n 2 (f + fv k)) := hP.2
      have hl := hP.1
      rw [hx, ← bt_xy f16 h, st_x (a := f + x) (by first | decide | omega)] at e2
      rw [hy]
      have s1 : 1 ≤ st n 2 (f + y) := st_1
      unfold mx at e2 ⊢
      split at e2 <;> split <;> omega
    have : decide (fv j ≤ l ∧ stnd n 2 f j) = true := decide_eq_true ⟨by have := hP.1; omega, hs⟩
    rw [this] at z
    exact absurd z (by decide)
  rcases ft with h | h | h | h
  · exact h
  · exact absurd (up 56 64 11 (by first | decide | omega) (by rw [h]; decide) (by decide) (by decide) (by first | decide | omega)) (fun x => x)
  · exact absurd (up 28 32 14 (by first | decide | omega) (by rw [h]; decide) (by decide) (by decide) (by first | decide | omega)) (fun x => x)
  · exact absurd (up 24 32 14 (by first | decide | omega) (by rw [h]; decide) (by decide) (by decide) (by first | decide | omega)) (fun x => x)
/-- the least step of a note -/
def sdU (d : Int) : Int := if d = 2 then 16 else 4
theorem nv_s {n d f l : Int} (hd : d = 2 ∨ d = 4 ∨ d = 8 ∨ d = 16) (f4 : f % sdU d = 0) (l0 : 0 < l) (l4 : l % sdU d = 0) : fv (nvF n d f l) ≤ l ∧ fv (nvF n d f l) % sdU d = 0 ∧ sdU d ≤ fv (nvF n d f l) := by
  unfold sdU at *
  by_cases z : d = 2
  · subst z
    rw [if_pos rfl] at f4 l4 ⊢
    exact nv_16 f4 l0 l4
  · rw [if_neg z] at f4 l4 ⊢
    obtain ⟨a, b⟩ := nv_4 (n := n) (f := f) hd f4 l0 l4
    have kb := nvF_b (n := n) (d := d) (f := f) (l := l)
    have := fv_b kb.1 kb.2
    exact ⟨a, b, this.1⟩
/-- the value of the note at a in a span that ends at e -/
def kvF (n d b a e : Int) : Int := nvF n d (a % b) (zmin (e - a) (b - a % b))
def nxF (n d b a e : Int) : Int := a + fv (kvF n d b a e)
/-- what a bar is, and where notes stand -/
def BRs (n d b : Int) : Prop := (1 ≤ n ∧ n ≤ 12) ∧ (d = 2 ∨ d = 4 ∨ d = 8 ∨ d = 16) ∧ b = 512 / d * n
theorem BRs_b {n d b : Int} (h : BRs n d b) : 32 ≤ b ∧ b ≤ 3072 ∧ b % sdU d = 0 ∧ (d ≠ 2 → b ≤ 1536) ∧ 0 < sdU d ∧ b % 16 = 0 := by
  obtain ⟨hn, hd, hb⟩ := h
  unfold sdU
  rcases hd with rfl | rfl | rfl | rfl
  · have : b = 256 * n := hb
    simp; omega
  · have : b = 128 * n := hb
    simp; omega
  · have : b = 64 * n := hb
    simp; omega
  · have : b = 32 * n := hb
    simp; omega
theorem nx_b {n d b a e : Int} (h : BRs n d b) (a0 : 0 ≤ a) (ae : a < e) (ha : a % sdU d = 0) (he : e % sdU d = 0) : (0 ≤ kvF n d b a e ∧ kvF n d b a e < 24) ∧ a + sdU d ≤ nxF n d b a e ∧ nxF n d b a e ≤ e ∧ nxF n d b a e % sdU d = 0 ∧ nxF n d b a e ≤ (a / b + 1) * b := by
  obtain ⟨b1, b2, b3, _, b5, _⟩ := BRs_b h
  have sd : sdU d = 16 ∨ sdU d = 4 := by unfold sdU; split <;> omega
  have dm := Int.emod_add_mul_ediv a b
  have m0 := Int.emod_nonneg a (show b ≠ 0 by omega)
  have m1 := Int.emod_lt_of_pos a (show 0 < b by omega)
  have am : (a % b) % sdU d = 0 := by
    obtain ⟨j, hj⟩ : ∃ j, b = sdU d * j := ⟨b / sdU d, by rcases sd with h | h <;> rw [h] at b3 ⊢ <;> omega⟩
    have : sdU d ∣ b := ⟨j, hj⟩
    rw [Int.emod_emod_of_dvd _ this]; exact ha
  have zm : zmin (e - a) (b - a % b) ≤ e - a ∧ zmin (e - a) (b - a % b) ≤ b - a % b ∧ 0 < zmin (e - a) (b - a % b) ∧ (zmin (e - a) (b - a % b) = e - a ∨ zmin (e - a) (b - a % b) = b - a % b) := by unfold zmin; split <;> omega
  have lm : zmin (e - a) (b - a % b) % sdU d = 0 := by
    rcases zm.2.2.2 with h | h <;> rw [h] <;> rcases sd with g | g <;> rw [g] at ha he b3 am ⊢ <;> omega
  obtain ⟨q1, q2, q3⟩ := nv_s (n := n) h.2.1 am zm.2.2.1 lm
  have e1 : (a / b + 1) * b = b * (a / b) + b := by rw [Int.add_mul, Int.mul_comm, Int.one_mul]
  unfold nxF kvF
  refine ⟨nvF_b, (by first | decide | omega), (by first | decide | omega), ?_, (by first | decide | omega)⟩
  rcases sd with g | g <;> rw [g] at ha q2 ⊢ <;> omega
end
end
section
section
/-! ===== the text of a span ===== -/
def spT (n d b m : Int) (st al : Int → Int) : Nat → Int → Int → List Int
  | 0, _, _ => []
  | f + 1, a, e => if a < e then ntA m st al (kvF n d b a e) ++ ((if nxF n d b a e < e ∧ ¬ m = 0 then [126] else []) ++ (32 :: ((if nxF n d b a e % b = 0 then [124, 10] else []) ++ spT n d b m st al f (nxF n d b a e) e))) else []
theorem spT_i {n d b m : Int} {st al : Int → Int} (h : BRs n d b) {e : Int} (he : e % sdU d = 0) : ∀ (f f' : Nat) (a : Int), 0 ≤ a → a % sdU d = 0 → e - a ≤ sdU d * f → e - a ≤ sdU d * f' → spT n d b m st al f a e = spT n d b m st al f' a e := by
  have s0 := (BRs_b h).2.2.2.2.1
  intro f
  induction f with
  | zero =>
    intro f' a a0 ha h1 h2
    have : ¬ a < e := by simp at h1; omega
    cases f' with
    | zero => rfl
    | succ f' => rw [spT, spT, if_neg this]
  | succ f ih =>
    intro f' a a0 ha h1 h2
    by_cases z : a < e
    · cases f' with
      | zero => simp at h2; omega
      | succ f' =>
        obtain ⟨_, n1, n2, n3, _⟩ := nx_b h a0 z ha he
        have e1 : sdU d * ((f + 1 : Nat) : Int) = sdU d * f + sdU d := by rw [show ((f + 1 : Nat) : Int) = (f : Int) + 1 by omega, Int.mul_add, Int.mul_one]
        have e2 : sdU d * ((f' + 1 : Nat) : Int) = sdU d * f' + sdU d := by rw [show ((f' + 1 : Nat) : Int) = (f' : Int) + 1 by omega, Int.mul_add, Int.mul_one]
        rw [spT, spT, if_pos z, if_pos z, ih f' (nxF n d b a e) (by first | decide | omega) n3 (by first | decide | omega) (by first | decide | omega)]
    · cases f' with
      | zero => rw [spT, spT, if_neg z]
      | succ f' => rw [spT, spT, if_neg z, if_neg z]
/-- the text of a span -/
def spX (n d b m : Int) (st al : Int → Int) (a e : Int) : List Int := spT n d b m st al (e - a).toNat a e
theorem spX_0 {n d b m a e : Int} {st al : Int → Int} (h : ¬ a < e) : spX n d b m st al a e = [] := by
  unfold spX
  rw [show (e - a).toNat = 0 by omega, spT]
theorem spX_u {n d b m a e : Int} {st al : Int → Int} (h : BRs n d b) (a0 : 0 ≤ a) (ha : a % sdU d = 0) (he : e % sdU d = 0) (z : a < e) : spX n d b m st al a e = ntA m st al (kvF n d b a e) ++ ((if nxF n d b a e < e ∧ ¬ m = 0 then [126] else []) ++ (32 :: ((if nxF n d b a e % b = 0 then [124, 10] else []) ++ spX n d b m st al (nxF n d b a e) e))) := by
  have s0 := (BRs_b h).2.2.2.2.1
  have sd : sdU d = 16 ∨ sdU d = 4 := by unfold sdU; split <;> omega
  obtain ⟨_, n1, n2, n3, _⟩ := nx_b h a0 z ha he
  unfold spX
  obtain ⟨f, hf⟩ : ∃ f, (e - a).toNat = f + 1 := ⟨(e - a).toNat - 1, (by first | decide | omega)⟩
  rw [hf, spT, if_pos z, spT_i (m := m) (st := st) (al := al) h he f (e - nxF n d b a e).toNat (nxF n d b a e) (by first | decide | omega) n3 (by rcases sd with g | g <;> rw [g] at n1 ⊢ <;> omega) (by rcases sd with g | g <;> rw [g] <;> omega)]
/-- what the scribe stands on while it writes: the page, the bar, the file's heads -/
def SCq (K : zK) (o n d b : Int) (q : zF × zB) : Prop := (q.1 7 0 0 = o ∧ 0 ≤ o ∧ o < K.2 8) ∧ q.1 7 0 1 = 1 ∧ q.1 7 0 3 = b ∧ q.1 7 0 4 = 0 ∧ q.2 8 o 0 4 = n ∧ q.2 8 o 0 5 = d
def EVq (m : Int) (st al : Int → Int) (q : zF × zB) : Prop := q.1 1 0 10 = m ∧ (0 ≤ m ∧ m ≤ 6) ∧ (∀ k, 0 ≤ k → k < m → q.2 1 0 12 k = st k ∧ q.2 1 0 13 k = al k ∧ (0 ≤ st k ∧ st k ≤ 62) ∧ (-7 ≤ al k ∧ al k ≤ 7))
def KKq (K : zK) : Prop := 2 ≤ K.2 0 ∧ 0 < K.2 7 ∧ 0 < K.2 1 ∧ 60000 ≤ K.1
theorem C_sp {K : zK} {q : zF × zB} {o n d b m e : Int} {st al : Int → Int} (hK : KKq K) (h : BRs n d b) (hq : SCq K o n d b q) (hv : EVq m st al q) (he : e % sdU d = 0) (e1 : 0 ≤ e ∧ e ≤ 400000) : ∀ (f m1 : Nat) (cnt a : Int) (T : List Int) (F : zF) (B : zB), 0 ≤ a → a ≤ 400000 → a % sdU d = 0 → e - a ≤ sdU d * f → 0 ≤ cnt → cnt + f ≤ 51199 → f < m1 → TC q T F B → ∃ F' B', f_Scribe_writeSpan_5 K m1 cnt a 0 e F B = some (0, F', B') ∧ TC q (T ++ spT n d b m st al f a e) F' B' := by
  obtain ⟨k0, k7, k1, kf⟩ := hK
  obtain ⟨⟨q0, o0⟩, q1, q3, q4, p4, p5⟩ := hq
  obtain ⟨b1, b2, b3, _, b5, _⟩ := BRs_b h
  intro f
  induction f with
  | zero =>
    intro m1 cnt a T F B a0 a1 ha hf c0 cl hm w
    obtain ⟨p, rfl⟩ : ∃ p, m1 = p + 1 := ⟨m1 - 1, (by first | decide | omega)⟩
    have z : ¬ a < e := by simp at hf; omega
    refine ⟨F, B, ?_, by rw [spT, List.append_nil]; exact w⟩
    rw [f_Scribe_writeSpan_5, if_pos (by unfold r32; omega), if_neg (by first | decide | omega), if_pos (by unfold r32; omega), if_pos (by unfold r32; omega), if_pos (by first | decide | omega), f_Scribe_writeSpan_122]
  | succ f ih =>
    intro m1 cnt a T F B a0 a1 ha hf c0 cl hm w
    obtain ⟨p, rfl⟩ : ∃ p, m1 = p + 1 := ⟨m1 - 1, (by first | decide | omega)⟩
    by_cases z : a < e
    · obtain ⟨kb, n1, n2, n3, _⟩ := nx_b h a0 z ha he
      have f3 : F 7 0 3 = b := by rw [w.2.1 7 0 3 (by first | decide | omega)]; exact q3
      have f0 : F 7 0 0 = o := by rw [w.2.1 7 0 0 (by first | decide | omega)]; exact q0
      have zr : ∀ x, 0 ≤ x → x ≤ 400000 → zrm x b = x % b := fun x x0 x1 => zrm_e x0 (by unfold r32; omega) (by first | decide | omega) (by unfold r32; omega)
      have m0 := Int.emod_nonneg a (show b ≠ 0 by omega)
      have m2 := Int.emod_lt_of_pos a (show 0 < b by omega)
      have zm : 0 ≤ zmin (e - a) (b - a % b) ∧ zmin (e - a) (b - a % b) ≤ b := by unfold zmin; split <;> omega
      have m3 := Int.emod_nonneg (nxF n d b a e) (show b ≠ 0 by omega)
      have m4 := Int.emod_lt_of_pos (nxF n d b a e) (show 0 < b by omega)
      obtain ⟨F1, B1, e1', w1⟩ := C_wn (g := if e ≤ nxF n d b a e then 0 else 1) k0 k7 k1 (by first | decide | omega) q1 q4 hv.1 hv.2.1 hv.2.2 kb (by split <;> omega) w
      have g3 : F1 7 0 3 = b := by rw [w1.2.1 7 0 3 (by first | decide | omega)]; exact q3
      have g1 : F1 7 0 1 = 1 := by rw [w1.2.1 7 0 1 (by first | decide | omega)]; exact q1
      have ti : (if (if e ≤ nxF n d b a e then (0 : Int) else 1) = 1 ∧ ¬ m = 0 then [(126 : Int)] else []) = (if nxF n d b a e < e ∧ ¬ m = 0 then [126] else []) := by
        by_cases y : e ≤ nxF n d b a e
        · rw [if_pos y, if_neg (show ¬ ((0 : Int) = 1 ∧ _) from fun c => by have := c.1; omega), if_neg (show ¬ (nxF n d b a e < e ∧ _) from fun c => by have := c.1; omega)]
        · rw [if_neg y]
          by_cases u : m = 0
          · rw [if_neg (fun c => c.2 u), if_neg (fun c => c.2 u)]
          · rw [if_pos ⟨rfl, u⟩, if_pos ⟨(by first | decide | omega), u⟩]
      rw [ti] at w1
      obtain ⟨F2, B2, e2, w2⟩ : ∃ F2 B2, (if nxF n d b a e % b = 0 then zbind (f_ByteRow_putText K 1 13 F1 B1) (fun r24 F24 B24 => f_Scribe_writeSpan_116 (f_Scribe_writeSpan_5 K p) K (nxF n d b a e) cnt 0 e F24 B24) else f_Scribe_writeSpan_116 (f_Scribe_writeSpan_5 K p) K (nxF n d b a e) cnt 0 e F1 B1) = f_Scribe_writeSpan_5 K p (cnt + 1) (nxF n d b a e) 0 e F2 B2 ∧ TC q (T ++ (ntA m st al (kvF n d b a e) ++ ((if nxF n d b a e < e ∧ ¬ m = 0 then [126] else []) ++ [32])) ++ (if nxF n d b a e % b = 0 then [124, 10] else [])) F2 B2 := by
        by_cases y : nxF n d b a e % b = 0
        · obtain ⟨F2, B2, e2, w2⟩ := C_strg (s := 13) (U := [124, 10]) k0 (by first | decide | omega) (by decide) (by decide) (by decide) (by decide) w1
          rw [if_pos y, if_pos y, e2, zb_s]
          exact ⟨F2, B2, rfl, w2⟩
        · rw [if_neg y, if_neg y, List.append_nil]
          exact ⟨F1, B1, rfl, w1⟩
      have es : sdU d * ((f + 1 : Nat) : Int) = sdU d * f + sdU d := by rw [show ((f + 1 : Nat) : Int) = (f : Int) + 1 by omega, Int.mul_add, Int.mul_one]
      obtain ⟨F3, B3, e3, w3⟩ := ih p (cnt + 1) (nxF n d b a e) _ F2 B2 (by first | decide | omega) (by first | decide | omega) n3 (by first | decide | omega) (by first | decide | omega) (by first | decide | omega) (by first | decide | omega) w2
      refine ⟨F3, B3, ?_, ?_⟩
      · have e95 : f_Scribe_writeSpan_95 (f_Scribe_writeSpan_5 K p) K (nxF n d b a e) cnt 0 e 0 (kvF n d b a e) (if e ≤ nxF n d b a e then 0 else 1) F B = some (0, F3, B3) := by
          unfold f_Scribe_writeSpan_95
          rw [if_pos ⟨(by first | decide | omega), k7⟩, e1', zb_s, if_pos ⟨(by first | decide | omega), k7⟩, g3, if_pos (iI_n0 (by first | decide | omega) (by unfold r32; omega)), zr _ (by first | decide | omega) (by first | decide | omega), if_pos (by unfold r32; omega), g1, if_pos (show (0 : Int) ≤ 1 ∧ (1 : Int) < K.2 0 by omega), e2, e3]
        rw [f_Scribe_writeSpan_5, if_pos (by unfold r32; omega), if_neg (by first | decide | omega), if_pos (by unfold r32; omega), if_pos (by unfold r32; omega), if_neg (by first | decide | omega), if_pos ⟨(by first | decide | omega), k7⟩, f3, if_pos (by unfold r32; omega), if_neg (by first | decide | omega), if_pos (iI_n0 (by first | decide | omega) (by unfold r32; omega)), if_pos (by unfold r32; omega), zr a a0 a1, if_pos (by unfold r32; omega), f0, if_pos o0, w.2.2 8 o 0 4 (by first | decide | omega), w.2.2 8 o 0 5 (by first | decide | omega), p4, p5, C_next (by first | decide | omega) h.1 h.2.1 m0 (by first | decide | omega) zm.1 (by first | decide | omega), zb_s]
        have ek : nvF n d (a % b) (zmin (e - a) (b - a % b)) = kvF n d b a e := rfl
        rw [ek, C_fine kb.1 kb.2, zb_s]
        have en : a + fv (kvF n d b a e) = nxF n d b a e := rfl
        rw [en, if_pos (by unfold r32; omega), ← e95]
        by_cases y : e ≤ nxF n d b a e
        · rw [if_pos y, if_pos y]
        · rw [if_neg y, if_neg y]
      · rw [spT, if_pos z]
        simp only [List.append_assoc, List.singleton_append, List.cons_append, List.nil_append] at w3 ⊢
        exact w3
    · refine ⟨F, B, ?_, by rw [spT, if_neg z, List.append_nil]; exact w⟩
      rw [f_Scribe_writeSpan_5, if_pos (by unfold r32; omega), if_neg (by first | decide | omega), if_pos (by unfold r32; omega), if_pos (by unfold r32; omega), if_pos (by first | decide | omega), f_Scribe_writeSpan_122]
/-- a span written by the class -/
theorem C_span {K : zK} {q : zF × zB} {o n d b m a e : Int} {st al : Int → Int} {T : List Int} {F : zF} {B : zB} (hK : KKq K) (h : BRs n d b) (hq : SCq K o n d b q) (hv : EVq m st al q) (a0 : 0 ≤ a ∧ a ≤ 400000) (ha : a % sdU d = 0) (he : e % sdU d = 0) (e1 : 0 ≤ e ∧ e ≤ 100 * b) (w : TC q T F B) : ∃ F' B', f_Scribe_writeSpan K 0 a e F B = some (0, F', B') ∧ TC q (T ++ spX n d b m st al a e) F' B' := by
  have hb := BRs_b h
  have sd : (sdU d = 16 ∧ d = 2) ∨ (sdU d = 4 ∧ d ≠ 2) := by unfold sdU; split <;> omega
  have s1 : e - a ≤ sdU d * (((e - a) / sdU d).toNat : Int) := by
    rcases sd with ⟨g, _⟩ | ⟨g, _⟩ <;> rw [g] at ha he ⊢ <;> omega
  have s2 : e - a ≤ sdU d * ((e - a).toNat : Int) := by
    rcases sd with ⟨g, _⟩ | ⟨g, _⟩ <;> rw [g] at ha he ⊢ <;> omega
  have s3 : (((e - a) / sdU d).toNat : Int) ≤ 38400 := by
    rcases sd with ⟨g, g'⟩ | ⟨g, g'⟩ <;> rw [g] at ha he ⊢ <;> omega
  obtain ⟨F1, B1, x1, x2⟩ := C_sp (m := m) (st := st) (al := al) hK h hq hv he (by first | decide | omega) ((e - a) / sdU d).toNat K.1 0 a T F B a0.1 a0.2 ha s1 (by first | decide | omega) (by first | decide | omega) (by have := hK.2.2.2; omega) w
  refine ⟨F1, B1, x1, ?_⟩
  unfold spX
  rw [← spT_i (m := m) (st := st) (al := al) h he ((e - a) / sdU d).toNat (e - a).toNat a a0.1 ha s1 s2]
  exact x2
end
end
