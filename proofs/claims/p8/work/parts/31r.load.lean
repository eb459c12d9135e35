section
/-! ===== a file's head whole, both sides ===== -/
/-- behind the head: well, or too long by its own word, or a fault -/
def HQ (o : Int) (F0 : zF) (B0 : zB) (Fm0 : zF) (Bm0 : zB) : Int → zF → zB → Int → zF → zB → Prop := fun _ F B r' Fm Bm => (tkF o F0 F ∧ tkG Fm0 Fm ∧ (∀ c y k x, ¬ (c = 8 ∧ y = o ∧ k = 0 ∧ 0 ≤ x ∧ x ≤ 1) → B c y k x = B0 c y k x) ∧ (∀ c y k x, ¬ (c = 14 ∧ y = 0 ∧ k = 74 ∧ 0 ≤ x ∧ x ≤ 1) → Bm c y k x = Bm0 c y k x)) ∧ (((Fm 14 0 17 = 0 ∧ 0 ≤ r' ∧ r' ≤ 17179869184) ∧ ((B 8 o 0 0 = Bm 14 0 74 0 ∧ 1 ≤ Bm 14 0 74 0 ∧ Bm 14 0 74 0 ≤ 8) ∧ (B 8 o 0 1 = Bm 14 0 74 1 ∧ 1 ≤ Bm 14 0 74 1 ∧ Bm 14 0 74 1 ≤ 960)) ∧ ((F 8 o 7 = 0 ∧ F 8 o 5 = r' ∧ r' ≤ F 0 0 1) ∨ (F 8 o 7 = 2 + 16 * F 0 0 1 ∧ F 0 0 1 < r' ∧ 0 ≤ F 8 o 5 ∧ F 8 o 5 ≤ 3000))) ∨ (RX o F Fm ∧ F 8 o 6 ≤ F 0 0 1))
theorem P_58 {K : zK} {Km : Nat} {o n l : Int} {F : zF} {B : zB} {Fm : zF} {Bm : zB} {F0 Fm0 : zF} (h0 : 2 ≤ K.2 0) (ho : 0 ≤ o ∧ o < K.2 8) (hK : 10 ≤ K.1) (hKm : 10 ≤ Km) (hn : 0 ≤ n ∧ n ≤ 4294967295) (hO : RO o F B Fm Bm) (h6 : F 8 o 6 = F 0 0 1) (t1 : tkF o F0 F) (t2 : tkG Fm0 Fm) (e89 : r32 (Fm 14 0 89)) (hQ : RQo o 8 F Fm) (hl : Fm 14 0 17 = 0 → l = n ∧ 6 ≤ n) : zP (f_SoundFile_loadHead_58 K n o F B) (f_M_header_39 Km l Fm Bm) (HQ o F0 B Fm0 Bm) := by
  unfold f_SoundFile_loadHead_58 f_M_header_39
  rw [if_pos ho, if_pos e89]
  generalize hL : Fm 14 0 89 + l = L
  have eL : Fm 14 0 17 = 0 → L = 8 + n := fun z => by
    have := hl z
    rcases hQ with ⟨g, _⟩ | ⟨x, _⟩
    · have := g.2.2.1; omega
    · have := x.2.1; omega
  refine P_oc (g := fun F B => f_M_header_73 Km L F B) h0 ho (by first | decide | omega) (by first | decide | omega) hO hQ (fun b G g0 b0 b1 => ?_) (fun F' b G x b0 b1 => ?_) (fun F1 G1 u1 u2 hq1 m1 => ?_)
  · rw [if_pos (show r32 b by unfold r32; omega)]
    refine ⟨fun z => ?_, fun z => ?_⟩
    · rw [if_pos (by first | decide | omega)]
    · rw [if_neg (by first | decide | omega), L_good g0, zb_s, if_pos (show r32 1 by decide), if_neg (show ¬ (1 : Int) = 0 by decide), L_fb g0, zb_s]
  · rw [if_pos (show r32 b by unfold r32; omega)]
    by_cases z : b = 0
    · rw [if_pos z]
    · rw [if_neg z, L_goodX x, zb_s, if_pos (show r32 0 by decide), if_pos (show (0 : Int) = 0 from rfl)]
  have hO1 := RO_t hO u1 u2
  show zP _ (f_M_header_73 Km L G1 Bm) _
  unfold f_M_header_73
  refine P_oc (g := fun F B => f_M_header_99 Km L F B) h0 ho (by first | decide | omega) (by first | decide | omega) hO1 hq1 (fun b G g0 b0 b1 => ?_) (fun F' b G x b0 b1 => ?_) (fun F2 G2 v1 v2 hq2 m2 => ?_)
  · rw [if_pos (show r32 b by unfold r32; omega)]
    refine ⟨fun z => ?_, fun z => ?_⟩
    · rw [if_pos (by first | decide | omega)]
    · rw [if_neg (by first | decide | omega), L_good g0, zb_s, if_pos (show r32 1 by decide), if_neg (show ¬ (1 : Int) = 0 by decide), L_fb g0, zb_s]
  · rw [if_pos (show r32 b by unfold r32; omega)]
    by_cases z : b ≤ 1
    · rw [if_pos z]
    · rw [if_neg z, L_goodX x, zb_s, if_pos (show r32 0 by decide), if_pos (show (0 : Int) = 0 from rfl)]
  have hO2 := RO_t hO1 v1 v2
  show zP _ (f_M_header_99 Km L G2 Bm) _
  unfold f_M_header_99
  refine P_bind (P_bnd (Km := Km) h0 ho hK hKm (by first | decide | omega) (by first | decide | omega) hO2 hq2) (fun r F3 B3 r' G3 D3 y => ?_)
  obtain ⟨rfl, rfl, w1, w2, hq3, y8⟩ := y
  have hO3 := RO_t hO2 w1 w2
  have hO3' : RO o F3 (zup4 B3 8 o 0 0 r) G3 (zup4 D3 14 0 74 0 r') := by
    obtain ⟨o1, o2, o3, o4⟩ := hO3
    refine ⟨o1, o2, fun y => ?_, ?_⟩
    · rw [zup4_v, if_neg (by first | decide | omega)]; exact o3 y
    · funext y
      show (zup4 D3 14 0 74 0 r') 14 0 2 y % 256 = _
      rw [zup4_v, if_neg (by first | decide | omega), zup4_v, if_neg (by first | decide | omega)]
      exact congrFun o4 y
  refine P_bind (P_bnd (Km := Km) h0 ho hK hKm (by first | decide | omega) (by first | decide | omega) hO3' hq3) (fun s F4 B4 s' G4 D4 y => ?_)
  obtain ⟨rfl, rfl, x1, x2, hq4, z8⟩ := y
  have f4 : tkF o F0 F4 := tkF_t t1 (tkF_t u1 (tkF_t v1 (tkF_t w1 x1)))
  have g4 : tkG Fm0 G4 := tkG_t t2 (tkG_t u2 (tkG_t v2 (tkG_t w2 x2)))
  have k6 : F4 8 o 6 = F4 0 0 1 := by
    have := tkF_t u1 (tkF_t v1 (tkF_t w1 x1))
    rw [this 8 o 6 (by first | decide | omega), this 0 0 1 (by first | decide | omega)]; exact h6
  have n4 := (RO_t hO3' x1 x2).2.1
  have fB : ∀ c y k x, ¬ (c = 8 ∧ y = o ∧ k = 0 ∧ 0 ≤ x ∧ x ≤ 1) → (zup4 (zup4 B3 8 o 0 0 r) 8 o 0 1 s) c y k x = B3 c y k x := fun c y k x n => by rw [zup4_v, if_neg (by first | decide | omega), zup4_v, if_neg (by first | decide | omega)]
  have fD : ∀ c y k x, ¬ (c = 14 ∧ y = 0 ∧ k = 74 ∧ 0 ≤ x ∧ x ≤ 1) → (zup4 (zup4 D3 14 0 74 0 r') 14 0 74 1 s') c y k x = D3 c y k x := fun c y k x n => by rw [zup4_v, if_neg (by first | decide | omega), zup4_v, if_neg (by first | decide | omega)]
  rcases hq4 with ⟨g, g6⟩ | ⟨x, x6⟩
  · obtain ⟨z9, rfl, zl⟩ := z8 g.2.1
    obtain ⟨y9, rfl, yl⟩ := y8 z9
    have gm := m1 (m2 y9)
    have e1 := eL gm
    have e2 := hl gm
    have ga := g.2.2.1
    rw [C_skip ho (by first | decide | omega) g (by first | decide | omega), zb_s]
    by_cases z : 14 + (n - 6) ≤ F4 8 o 6
    · rw [if_pos (by first | decide | omega)]
      refine P_some ⟨⟨tkF_t f4 (fun c y k n => by rw [zup3_v, if_neg (by first | decide | omega)]), g4, fB, fD⟩, Or.inl ⟨⟨g.2.1, (by first | decide | omega), (by first | decide | omega)⟩, ?_, Or.inl ?_⟩⟩
      · simp only [zup4_v]
        simp
        omega
      · simp only [zup3_v]
        simp
        have := g.1
        omega
    · rw [if_neg (by first | decide | omega)]
      refine P_some ⟨⟨tkF_t f4 (fun c y k n => by rw [zup3_v, if_neg (by first | decide | omega)]), g4, fB, fD⟩, Or.inl ⟨⟨g.2.1, (by first | decide | omega), (by first | decide | omega)⟩, ?_, Or.inr ?_⟩⟩
      · simp only [zup4_v]
        simp
        omega
      · simp only [zup3_v]
        simp
        omega
  · rw [C_skipX ho (by first | decide | omega) x, zb_s]
    exact P_some ⟨⟨f4, g4, fB, fD⟩, Or.inr ⟨x, x6⟩⟩
theorem P_lh {K : zK} {Km : Nat} {o : Int} {F : zF} {B : zB} {Fm : zF} {Bm : zB} (h0 : 2 ≤ K.2 0) (ho : 0 ≤ o ∧ o < K.2 8) (hK : 10 ≤ K.1) (hKm : 10 ≤ Km) (hO : RO o F B Fm Bm) (h6 : F 8 o 6 = F 0 0 1) (g : RG o 0 F Fm) (g6 : 0 ≤ F 8 o 6) : zP (f_SoundFile_loadHead K o F B) (f_M_header Km Fm Bm) (HQ o F B Fm Bm) := by
  unfold f_SoundFile_loadHead f_M_header f_M_expect
  refine P_hl h0 ho 4 K.1 Km 0 F Fm (by first | decide | omega) (by first | decide | omega) (by first | decide | omega) (by first | decide | omega) hO (Or.inl ⟨g, g6⟩) (fun m F1 G1 t1 t2 hq1 m1 => ?_)
  have hO1 := RO_t hO t1 t2
  have b4 : bwn (0 + 4) = 4294967295 := by decide
  have hw := P_wide (Km := Km) (o := o) (l := 4) h0 ho 4 0 K.1 Km 4 0 0 F1 B G1 Bm (by first | decide | omega) (by first | decide | omega) (by first | decide | omega) (by first | decide | omega) (by decide) (by decide) (fun _ => rfl) hO1 hq1
  have l21 : zsl 21 = 4 := by decide
  rw [f_SoundFile_loadHead_5, if_pos (by decide), C_slen (by decide) (by decide), zb_s, if_pos (show r32 4 by decide), l21, if_pos (show r32 4 by decide), if_pos (show (4 : Int) ≤ 4 by decide), if_pos ho]
  refine P_bind (R := fun r F' B' r' Fm' Bm' => B' = B ∧ Bm' = Bm ∧ tkF o F1 F' ∧ tkG G1 Fm' ∧ (0 ≤ r ∧ r ≤ 4294967295) ∧ (0 ≤ r' ∧ r' ≤ 4294967295) ∧ RQo o 8 F' Fm' ∧ (Fm' 14 0 17 = 0 → G1 14 0 17 = 0 ∧ r' = r)) ?_ (fun n F2 B2 n' G2 D2 y => ?_)
  · obtain ⟨r, F', B', r', Fm', Bm', e1, e2, w1, w2, w3, w4, w5, w6, w7, w8⟩ := hw
    rw [b4] at w5 w6
    exact ⟨r, F', B', r', Fm', Bm', e1, e2, w1, w2, w3, w4, w5, w6, w7, w8⟩
  · obtain ⟨rfl, rfl, y3, y4, y5, y6, y7, y8⟩ := y
    have hO2 := RO_t hO1 y3 y4
    have n3 := hO2.2.1
    have f2 := tkF_t t1 y3
    have g2 := tkG_t t2 y4
    have k6 : F2 8 o 6 = F2 0 0 1 := by rw [f2 8 o 6 (by first | decide | omega), f2 0 0 1 (by first | decide | omega)]; exact h6
    rw [if_pos (show r64 n by unfold r64; omega)]
    rcases y7 with ⟨g1, g16⟩ | ⟨x, x6⟩
    · obtain ⟨gm, rfl⟩ := y8 g1.2.1
      have ga := g1.2.2.1
      rw [L_good g1.2.1, zb_s, if_pos (show r32 1 by decide), if_neg (show ¬ (1 : Int) = 0 by decide), if_pos (show r64 n' by unfold r64; omega)]
      by_cases z : 6 ≤ n'
      · rw [if_pos (zcmp_o.mpr z), if_pos (zcmp_o.mpr z)]
        exact P_58 h0 ho hK hKm (by first | decide | omega) hO2 k6 f2 g2 (by unfold r32; omega) (Or.inl ⟨g1, g16⟩) (fun _ => ⟨rfl, z⟩)
      · have gq : F1 8 o 5 = 4 ∧ G1 14 0 89 = 4 := by
          rcases hq1 with ⟨g, _⟩ | ⟨x, _⟩
          · have := g.2.2.1; omega
          · have := x.2.1; omega
        have gx := RX_n (c := 3) (z := 4) g1 g16 (by first | decide | omega) (by first | decide | omega) (by first | decide | omega)
        have tf : tkF o F2 (zup3 F2 8 o 7 (3 + 16 * 4)) := fun c y k n => by rw [zup3_v, if_neg (by first | decide | omega)]
        have tg : tkG G2 (zup3 (zup3 G2 14 0 17 3) 14 0 18 4) := fun c y k n => by rw [zup3_v, if_neg (by first | decide | omega), zup3_v, if_neg (by first | decide | omega)]
        rw [if_neg (fun x => z (zcmp_o.mp x)), if_neg (fun x => z (zcmp_o.mp x)), gq.1, gq.2, C_ref ho g1.1, zb_s, L_fb g1.2.1, zb_s]
        refine P_58 h0 ho hK hKm (by first | decide | omega) (RO_t hO2 tf tg) (by rw [tf 8 o 6 (by first | decide | omega), tf 0 0 1 (by first | decide | omega)]; exact k6) (tkF_t f2 tf) (tkG_t g2 tg) ?_ (Or.inr ⟨gx, ?_⟩) (fun q => ?_)
        · rw [zup3_v, if_neg (by first | decide | omega), zup3_v, if_neg (by first | decide | omega)]; unfold r32; omega
        · rw [tf 8 o 6 (by first | decide | omega), tf 0 0 1 (by first | decide | omega)]; omega
        · have := gx.2.1.1; omega
    · have e9 : r32 (G2 14 0 89) := by have := x.2.2.2.2.2.2; unfold r32; omega
      rw [L_goodX x, zb_s, if_pos (show r32 0 by decide), if_pos (show (0 : Int) = 0 from rfl)]
      by_cases z : 0 ≤ zcmp n 6
      · rw [if_pos z]
        exact P_58 h0 ho hK hKm (by first | decide | omega) hO2 k6 f2 g2 e9 (Or.inr ⟨x, x6⟩) (fun q => by have := x.2.1.1; omega)
      · rw [if_neg z, C_refX ho x, zb_s]
        exact P_58 h0 ho hK hKm (by first | decide | omega) hO2 k6 f2 g2 e9 (Or.inr ⟨x, x6⟩) (fun q => by have := x.2.1.1; omega)
end
