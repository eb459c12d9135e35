section
/-! ===== perform, both sides ===== -/
/-- the sounds that the class keeps are those that the reference would gather -/
def SDR (s V p w : Int) (F : zF) (B : zB) (Fm : zF) (Bm : zB) : Prop := ∃ (K0 : zK) (F0 : zF) (B0 : zB) (F1 : zF) (B1 : zB), 3002 ≤ K0.1 ∧ (0 ≤ s ∧ s < K0.2 5) ∧ PK K0 V p w F0 B0 Fm Bm ∧ f_Performance_gather K0 s p F0 B0 = some (0, F1, B1) ∧ F 5 s 0 = F1 5 s 0 ∧ F 5 s 1 = F1 5 s 1 ∧ ∀ k x, 340 ≤ k → B 5 s k x = B1 5 s k x
theorem SDR_e {s V p w : Int} {F F' : zF} {B B' : zB} {Fm Fm' : zF} {Bm Bm' : zB} (h : SDR s V p w F B Fm Bm) (f : F' 5 s 0 = F 5 s 0 ∧ F' 5 s 1 = F 5 s 1) (b : ∀ k x, 340 ≤ k → B' 5 s k x = B 5 s k x) (fm : ∀ k, k ≤ 7 → 1 ≤ k → Fm' 13 w k = Fm 13 w k) (bm : ∀ k x, k ≤ 35 → Bm' 13 w k x = Bm 13 w k x) : SDR s V p w F' B' Fm' Bm' := by
  obtain ⟨K0, F0, B0, F1, B1, a1, a2, a3, a4, a5, a6, a7⟩ := h
  exact ⟨K0, F0, B0, F1, B1, a1, a2, PK_e a3 (fun _ => Int.le_refl _) (fun _ _ => rfl) rfl (fun _ _ _ => rfl) (fun _ _ _ => rfl) (fun _ _ _ _ _ _ => rfl) (fun _ _ _ _ _ _ => rfl) fm bm, a4, by rw [f.1]; exact a5, by rw [f.2]; exact a6, fun k x hk => by rw [b k x hk]; exact a7 k x hk⟩
theorem SDR_ga {Km : Nat} {s V p w : Int} {F : zF} {B : zB} {Fm : zF} {Bm : zB} (hKm : 812851200 < Km) (h : SDR s V p w F B Fm Bm) (hT : T61 Bm) : ∃ Fm' Bm', f_M_gather Km w Fm Bm = some (Fm' 14 0 62, Fm', Bm') ∧ gaG Fm Fm' ∧ gaM Bm Bm' ∧ GA V s F B Fm' Bm' ∧ 0 ≤ Fm' 14 0 62 ∧ Fm' 14 0 62 ≤ 100000000 := by
  obtain ⟨K0, F0, B0, F1, B1, a1, a2, a3, a4, a5, a6, a7⟩ := h
  obtain ⟨F', B', Fm', Bm', x1, x2, x3, x4, x5, x6, x7, x8, x9, _⟩ := P_gather (Km := Km) a1 hKm a2 a3 hT
  rw [a4] at x1
  injection x1 with x1
  injection x1 with _ x1
  injection x1 with e1 e2
  subst e1
  subst e2
  refine ⟨Fm', Bm', x2, x5, x6, ?_, x8, x9⟩
  unfold GA SR at *
  rw [a5, a6]
  simp only [a7 340 _ (by decide), a7 341 _ (by decide), a7 342 _ (by decide), a7 343 _ (by decide), a7 344 _ (by decide), a7 345 _ (by decide)]
  exact x7
/-- a kept piece's performance, as far as it is made -/
def PD (K : zK) (V p w : Int) (F : zF) (B : zB) (Fm : zF) (Bm : zB) : Prop := (F 6 p 10 = 0 ∨ F 6 p 10 = 1) ∧ (F 6 p 11 = 0 ∨ F 6 p 11 = 1) ∧ F 6 p 9 < K.2 5 ∧ (0 ≤ F 6 p 9 → rwS (F 6 p 9) F) ∧ (F 6 p 11 = 1 → 0 ≤ F 6 p 9 ∧ SDR (F 6 p 9) V p w F B Fm Bm) ∧ (F 6 p 10 = 1 → F 6 p 11 = 1 ∧ ∃ c, PFD (F 6 p 9) w c F B Fm Bm) ∧ (F 6 p 10 = 0 → Fm 13 w 53 = 0)
/-- what sounds made may change in the class -/
def smF (K : zK) (p s : Int) (F F' : zF) : Prop := ∀ c y k, y < K.2 c → ¬ (c = 6 ∧ y = p ∧ (k = 9 ∨ k = 11)) → ¬ (c = 5 ∧ y = s) → F' c y k = F c y k
def smB (K : zK) (s : Int) (B B' : zB) : Prop := ∀ c y k x, y < K.2 c → ¬ (c = 5 ∧ y = s ∧ 340 ≤ k) → B' c y k x = B c y k x
theorem C_made {K : zK} {V p w : Int} {F : zF} {B : zB} {Fm : zF} {Bm : zB} (hK : 3002 ≤ K.1) (h5 : 0 ≤ K.2 5) (hP : PK K V p w F B Fm Bm) (hT : T61 Bm) (hD : PD K V p w F B Fm Bm) : ∃ s F1 B1 K1, f_Piece_soundsMade K p F B = some (s, F1, B1, K1) ∧ K1.1 = K.1 ∧ (0 ≤ s ∧ s < K1.2 5) ∧ ((s = F 6 p 9 ∧ K1 = K) ∨ (F 6 p 9 < 0 ∧ s = K.2 5 ∧ K1 = (K.1, zinN K.2 5))) ∧ SDR s V p w F1 B1 Fm Bm ∧ (F1 6 p 9 = s ∧ F1 6 p 11 = 1) ∧ rwS s F1 ∧ smF K p s F F1 ∧ smB K s B B1 ∧ (F 6 p 11 = 1 → F1 = F ∧ B1 = B) ∧ (∀ k, k = 2 ∨ k = 3 ∨ k = 11 ∨ k = 12 ∨ k = 13 → F1 5 s k = 0 ∨ (s < K.2 5 ∧ F1 5 s k = F 5 s k)) := by
  have hp := hP.1.1
  obtain ⟨d10, d11, d9, dr, ds, dp, _⟩ := hD
  -- gather, when the object is there and the sounds are not made
  have g18 : ∀ (K1 : zK) (F1 : zF) (B1 : zB) (s : Int), K1.1 = K.1 → (∀ c, K.2 c ≤ K1.2 c) → F1 6 p 9 = s → 0 ≤ s → s < K1.2 5 → rwS s F1 → F1 6 p 11 = 0 → PK K1 V p w F1 B1 Fm Bm → ∃ F2 B2, f_Piece_soundsMade_18 K1 p F1 B1 = some (s, F2, B2, K1) ∧ SDR s V p w F2 B2 Fm Bm ∧ (F2 6 p 9 = s ∧ F2 6 p 11 = 1) ∧ rwS s F2 ∧ (∀ c y k, ¬ (c = 6 ∧ y = p ∧ k = 11) → ¬ (c = 5 ∧ y = s) → F2 c y k = F1 c y k) ∧ gaB s B1 B2 ∧ (∀ k, k = 2 ∨ k = 3 ∨ k = 11 ∨ k = 12 ∨ k = 13 → F2 5 s k = 0 ∨ F2 5 s k = F1 5 s k) := fun K1 F1 B1 s k1 kk e9 s0 s1 r1 e11 hP1 => by
    have hp1 : 0 ≤ p ∧ p < K1.2 6 := hP1.1.1
    obtain ⟨F', B', Fm', Bm', x1, x2, x3, x4, _, _, _, _, _, x10⟩ := P_gather (Km := 812851201) (by rw [k1]; exact hK) (by decide) ⟨s0, s1⟩ hP1 hT
    refine ⟨zup3 F' 6 p 11 1, B', ?_, ⟨K1, F1, B1, F', B', by rw [k1]; exact hK, ⟨s0, s1⟩, hP1, x1, by rw [zup3_v, if_neg (by omega)], by rw [zup3_v, if_neg (by omega)], fun _ _ _ => rfl⟩, ⟨by rw [zup3_v, if_neg (by omega), x3 6 p 9 (by omega)]; exact e9, by rw [zup3_v, if_pos (by omega)]⟩, ?_, fun c y k q1 q2 => by rw [zup3_v, if_neg (by omega), x3 c y k (by omega)], x4, fun k hk => by
      rw [zup3_v, if_neg (by first | decide | omega)]
      by_cases e : k = 3
      · rw [e]; exact Or.inl x10
      · exact Or.inr (x3 5 s k (by first | decide | omega))⟩
    · unfold f_Piece_soundsMade_18 f_Piece_soundsMade_38
      rw [if_pos hp1, e11, if_pos (by decide), if_pos rfl, e9, if_pos ⟨s0, s1⟩, x1]
      simp only [zbN_s]
      rw [if_pos hp1, zup3_v, if_neg (by first | decide | omega), x3 6 p 9 (by first | decide | omega), e9]
    · unfold rwS at *
      rw [zup3_v, if_neg (by first | decide | omega), zup3_v, if_neg (by first | decide | omega), x3 5 s 8 (by first | decide | omega), x3 5 s 9 (by first | decide | omega)]
      exact r1
  unfold f_Piece_soundsMade
  rw [if_pos hp]
  by_cases n : F 6 p 9 < 0
  · -- a performance is made
    have e11 : F 6 p 11 = 0 := by
      rcases d11 with q | q
      · exact q
      · have := (ds q).1; omega
    generalize hF1 : zup3 (zinF F 5 (K.2 5) [0, 0, 0, 0, 0, 0, 0, 0, 180, 181, 0, 0, 0, 0]) 6 p 9 (K.2 5) = F1
    generalize hB1 : zinB B 5 (K.2 5) (fun _ _ => 0) = B1
    have fn : ∀ c y k, ¬ (c = 5 ∧ y = K.2 5) → ¬ (c = 6 ∧ y = p ∧ k = 9) → F1 c y k = F c y k := fun c y k q1 q2 => by rw [← hF1, zup3_v, if_neg q2, zinF_v, if_neg q1]
    have bn : ∀ c y k x, ¬ (c = 5 ∧ y = K.2 5) → B1 c y k x = B c y k x := fun c y k x q1 => by rw [← hB1, zinB_v, if_neg q1]
    have kn : ∀ c, ¬ c = 5 → zinN K.2 5 c = K.2 c := fun c hc => by rw [zinN_v, if_neg hc]
    have k5 : zinN K.2 5 5 = K.2 5 + 1 := by rw [zinN_v, if_pos rfl]
    have kk : ∀ c, K.2 c ≤ zinN K.2 5 c := fun c => by
      by_cases e : c = 5
      · rw [e, k5]; omega
      · rw [kn c e]; exact Int.le_refl _
    have hP1 : PK (K.1, zinN K.2 5) V p w F1 B1 Fm Bm := PK_e hP kk (fun k hk => fn 6 p k (by first | decide | omega) (by first | decide | omega)) (by funext v; exact bn 6 p 0 v (by first | decide | omega)) (fun u _ _ => by funext k; exact fn 4 _ k (by first | decide | omega) (by first | decide | omega)) (fun u _ _ => by funext k x; exact bn 4 _ k x (by first | decide | omega)) (fun u i _ _ _ _ => by funext k; exact fn 1 _ k (by first | decide | omega) (by first | decide | omega)) (fun u i _ _ _ _ => by funext k x; exact bn 1 _ k x (by first | decide | omega)) (fun _ _ _ => rfl) (fun _ _ _ => rfl)
    have r1 : rwS (K.2 5) F1 := by
      refine Or.inl ⟨?_, ?_⟩
      · rw [← hF1, zup3_v, if_neg (by first | decide | omega), zinF_v, if_pos ⟨rfl, rfl⟩]; rfl
      · rw [← hF1, zup3_v, if_neg (by first | decide | omega), zinF_v, if_pos ⟨rfl, rfl⟩]; rfl
    obtain ⟨F2, B2, x1, x2, x3, x4, x5, x6, x7⟩ := g18 (K.1, zinN K.2 5) F1 B1 (K.2 5) rfl kk (by rw [← hF1, zup3_v, if_pos (by first | decide | omega)]) h5 (by show K.2 5 < zinN K.2 5 5; omega) r1 (by rw [fn 6 p 11 (by first | decide | omega) (by first | decide | omega)]; exact e11) hP1
    refine ⟨K.2 5, F2, B2, (K.1, zinN K.2 5), ?_, rfl, ⟨h5, by show K.2 5 < zinN K.2 5 5; omega⟩, Or.inr ⟨n, rfl, rfl⟩, x2, x3, x4, fun c y k y1 q1 q2 => ?_, fun c y k x y1 q1 => ?_, fun q => (by first | decide | omega), fun k hk => Or.inl ?_⟩
    · rw [if_pos n]
      unfold f_Performance_init f_Piece_soundsMade_15
      rw [if_pos h5]
      simp only [zbM_s]
      rw [if_pos (show 0 ≤ K.2 5 ∧ K.2 5 < zinN K.2 5 5 by omega), if_pos (show 0 ≤ p ∧ p < zinN K.2 5 6 by rw [kn 6 (by decide)]; exact hp), if_pos (show 0 ≤ p ∧ p < zinN K.2 5 6 by rw [kn 6 (by decide)]; exact hp), if_pos (show K.2 5 < zinN K.2 5 5 by omega), hF1, hB1]
      exact x1
    · rw [x5 c y k (by first | decide | omega) q2, fn c y k q2 (by first | decide | omega)]
    · rw [x6 c y k x q1, bn c y k x (fun z => by have := z.1; subst this; omega)]
    · rcases x7 k hk with z | z
      · exact z
      · rw [z, ← hF1, zup3_v, if_neg (by first | decide | omega), zinF_v, if_pos ⟨rfl, rfl⟩]
        rcases hk with rfl | rfl | rfl | rfl | rfl <;> rfl
  · rw [if_neg n]
    rcases d11 with e11 | e11
    · obtain ⟨F2, B2, x1, x2, x3, x4, x5, x6, x7⟩ := g18 K F B (F 6 p 9) rfl (fun _ => Int.le_refl _) rfl (by first | decide | omega) d9 (dr (by first | decide | omega)) e11 hP
      exact ⟨F 6 p 9, F2, B2, K, x1, rfl, ⟨by omega, d9⟩, Or.inl ⟨rfl, rfl⟩, x2, x3, x4, fun c y k _ q1 q2 => x5 c y k (by omega) q2, fun c y k x _ q1 => x6 c y k x q1, fun q => by omega, fun k hk => by
        rcases x7 k hk with z | z
        · exact Or.inl z
        · exact Or.inr ⟨d9, z⟩⟩
    · refine ⟨F 6 p 9, F, B, K, ?_, rfl, ⟨(by first | decide | omega), d9⟩, Or.inl ⟨rfl, rfl⟩, (ds e11).2, ⟨rfl, e11⟩, dr (by first | decide | omega), fun _ _ _ _ _ _ => rfl, fun _ _ _ _ _ _ => rfl, fun _ => ⟨rfl, rfl⟩, fun k _ => Or.inr ⟨d9, rfl⟩⟩
      unfold f_Piece_soundsMade_18 f_Piece_soundsMade_38
      rw [if_pos hp, e11, if_pos (by decide), if_neg (by decide), if_pos hp]
end
