section
/-! ===== perform, both sides: the call ===== -/
theorem PFD_e {s w c : Int} {F F' : zF} {B B' : zB} {Fm Fm' : zF} {Bm Bm' : zB} (h : PFD s w c F B Fm Bm) (f : F' 5 s = F 5 s) (b : B' 5 s = B 5 s) (fm : ∀ k, k = 53 ∨ k = 54 ∨ k = 60 ∨ k = 65 → Fm' 13 w k = Fm 13 w k) (bm : ∀ k x, 55 ≤ k → k ≤ 64 → Bm' 13 w k x = Bm 13 w k x) : PFD s w c F' B' Fm' Bm' := by
  unfold PFD SB kz SX at *
  rw [f, b, fm 53 (by first | decide | omega), fm 54 (by first | decide | omega), fm 60 (by first | decide | omega), fm 65 (by first | decide | omega)]
  simp only [bm 55 _ (by decide) (by decide), bm 56 _ (by decide) (by decide), bm 57 _ (by decide) (by decide), bm 58 _ (by decide) (by decide), bm 59 _ (by decide) (by decide), bm 61 _ (by decide) (by decide), bm 62 _ (by decide) (by decide), bm 63 _ (by decide) (by decide), bm 64 _ (by decide) (by decide)]
  exact h
/-- what perform may change -/
def pfF (K : zK) (p s : Int) (F F' : zF) : Prop := ∀ c y k, y < K.2 c → ¬ (c = 6 ∧ y = p ∧ 9 ≤ k ∧ k ≤ 11) → ¬ (c = 5 ∧ y = s) → F' c y k = F c y k
def pfB (K : zK) (s : Int) (B B' : zB) : Prop := ∀ c y k x, y < K.2 c → ¬ (c = 5 ∧ y = s) → B' c y k x = B c y k x
def pfG (w : Int) (F F' : zF) : Prop := ∀ c y k, ¬ (c = 14 ∧ y = 0 ∧ (k ≤ 1 ∨ k = 62)) → ¬ (c = 13 ∧ y = w ∧ (k = 53 ∨ k = 54 ∨ k = 60 ∨ (65 ≤ k ∧ k ≤ 69))) → F' c y k = F c y k
def pfM (w : Int) (B B' : zB) : Prop := ∀ c y k x, ¬ (c = 14 ∧ y = 0 ∧ 63 ≤ k ∧ k ≤ 69) → ¬ (c = 13 ∧ y = w ∧ 55 ≤ k ∧ k ≤ 71) → B' c y k x = B c y k x
def pfU (K : zK) (s : Int) (F F' : zF) : Prop := ∀ k, k = 2 ∨ k = 3 ∨ k = 11 ∨ k = 12 ∨ k = 13 → F' 5 s k = 0 ∨ (s < K.2 5 ∧ F' 5 s k = F 5 s k)
def pfV (w : Int) (F F' : zF) : Prop := (∀ k, 65 ≤ k → k ≤ 69 → F' 13 w k = 0) ∨ (∀ k, k = 53 ∨ (65 ≤ k ∧ k ≤ 69) → F' 13 w k = F 13 w k)
theorem P_prf {K : zK} {Km : Nat} {V p w : Int} {F : zF} {B : zB} {Fm : zF} {Bm : zB} (hK : 4100 ≤ K.1) (hKm : 812851200 < Km) (h5 : 0 ≤ K.2 5) (hP : PK K V p w F B Fm Bm) (hT : T61 Bm) (hD : PD K V p w F B Fm Bm) : ∃ r s F' B' K' Fm' Bm', zbindM (f_Piece_soundsMade K p F B) (fun r6 F6 B6 K6 => f_S_perform_16 K6 p r6 F6 B6) = some (r, F', B', K') ∧ zbind (f_M_gather Km w Fm Bm) (fun r4 F4 B4 => if r32 r4 then (if r4 ≤ 2000 then f_M_perform_41 Km Km 0 w (zup3 (zup3 F4 13 w 53 1) 13 w 54 (F4 14 0 62)) B4 else some ((-2), F4, B4)) else none) = some (r, Fm', Bm') ∧ K'.1 = K.1 ∧ (0 ≤ s ∧ s < K'.2 5) ∧ ((s = F 6 p 9 ∧ K' = K) ∨ (F 6 p 9 < 0 ∧ s = K.2 5 ∧ K' = (K.1, zinN K.2 5))) ∧ F' 6 p 9 = s ∧ pfF K p s F F' ∧ pfB K s B B' ∧ pfG w Fm Fm' ∧ pfM w Bm Bm' ∧ PD K' V p w F' B' Fm' Bm' ∧ pfU K s F F' ∧ pfV w Fm Fm' := by
  have hp := hP.1.1
  have w0 := hP.1.2.1
  obtain ⟨s, F1, B1, K1, x1, x2, x3, x4, x5, x6, x7, x8, x9, x10, x11⟩ := C_made (by first | decide | omega) h5 hP hT hD
  obtain ⟨d10, d11, d9, dr, ds, dp, dz⟩ := hD
  have hp1 : 0 ≤ p ∧ p < K1.2 6 := by
    rcases x4 with ⟨_, e⟩ | ⟨_, _, e⟩
    · rw [e]; exact hp
    · rw [e]; show 0 ≤ p ∧ p < zinN K.2 5 6; rw [zinN_v, if_neg (by decide)]; exact hp
  have f10 : F1 6 p 10 = F 6 p 10 := x8 6 p 10 hp.2 (by first | decide | omega) (by first | decide | omega)
  obtain ⟨Fm1, Bm1, y1, y2, y3, y4, y5, y6⟩ := SDR_ga hKm x5 hT
  have g53 : ∀ k, Fm1 13 w k = Fm 13 w k := fun k => y2 13 w k (by first | decide | omega)
  rw [x1, y1]
  simp only [zbM_s, zb_s]
  rw [if_pos (show r32 (Fm1 14 0 62) by unfold r32; omega)]
  unfold f_S_perform_16
  rw [if_pos x3]
  have pF1 : pfF K p s F F1 := fun c y k q0 q1 q2 => x8 c y k q0 (by first | decide | omega) q2
  have pB1 : pfB K s B B1 := fun c y k x q0 q1 => x9 c y k x q0 (by first | decide | omega)
  rcases y4 with ⟨g1, g2, g3, g4, g5⟩ | ⟨g1, g2, g3⟩
  · -- the strokes fit
    generalize hG : zup3 (zup3 Fm1 13 w 53 1) 13 w 54 (Fm1 14 0 62) = G
    have gn : ∀ c y k, ¬ (c = 13 ∧ y = w ∧ (k = 53 ∨ k = 54)) → G c y k = Fm1 c y k := fun c y k q => by rw [← hG, zup3_v, if_neg (by first | decide | omega), zup3_v, if_neg (by first | decide | omega)]
    obtain ⟨F', B', Fm', Bm', z1, z2, z3, z4, z5, z6, z7, z8, z9, z10⟩ := P_strk (K := K1) (Km := Km) (s := s) (w := w) (c := F1 5 s 0) (F := F1) (B := B1) (Fm := G) (Bm := Bm1) (by rw [x2]; exact hK) (by first | decide | omega) x3 w0 x7 ⟨g1, rfl, g3, g4⟩ (by rw [gn 14 0 62 (by first | decide | omega)]; exact g2.symm) ⟨by rw [← hG, zup3_v, if_neg (by first | decide | omega), zup3_v, if_pos (by first | decide | omega)], by rw [← hG, zup3_v, if_pos (by first | decide | omega)]; exact g2.symm⟩ g5
    have s9 : (zup3 F' 6 p 10 1) 6 p 9 = s := by rw [zup3_v, if_neg (by first | decide | omega), z4 6 p 9 (by first | decide | omega)]; exact x6.1
    refine ⟨F1 5 s 0, s, zup3 F' 6 p 10 1, B', K1, Fm', Bm', ?_, ?_, x2, x3, x4, s9, fun c y k q0 q1 q2 => ?_, fun c y k x q0 q1 => ?_, fun c y k q1 q2 => ?_, fun c y k x q1 q2 => ?_, ⟨Or.inr ?_, Or.inr ?_, ?_, fun _ => ?_, fun _ => ⟨?_, ?_⟩, fun _ => ⟨?_, F1 5 s 0, ?_⟩, fun q => ?_⟩, fun k hk => ?_, Or.inl (fun k k0 k1 => ?_)⟩
    · rw [g1, if_pos (by decide), if_pos rfl, z1]
      simp only [zbN_s]
      rw [if_pos hp1, z4 5 s 0 (by first | decide | omega)]
    · rw [if_pos (by first | decide | omega)]; exact z2
    · rw [zup3_v, if_neg (by first | decide | omega), z4 c y k (by first | decide | omega)]; exact pF1 c y k q0 q1 q2
    · rw [z6 c y k x (by first | decide | omega)]; exact pB1 c y k x q0 q1
    · rw [z7 c y k (by first | decide | omega), gn c y k (by first | decide | omega), y2 c y k (by first | decide | omega)]
    · rw [z9 c y k x (by first | decide | omega) (by first | decide | omega), y3 c y k x (by first | decide | omega)]
    · rw [zup3_v, if_pos (by first | decide | omega)]
    · rw [zup3_v, if_neg (by first | decide | omega), z4 6 p 11 (by first | decide | omega)]; exact x6.2
    · rw [s9]; exact x3.2
    · rw [s9]
      unfold rwS at z3 ⊢
      rw [zup3_v, if_neg (by first | decide | omega), zup3_v, if_neg (by first | decide | omega)]
      exact z3
    · rw [s9]; exact x3.1
    · rw [s9]
      refine SDR_e x5 ⟨by rw [zup3_v, if_neg (by first | decide | omega), z4 5 s 0 (by first | decide | omega)], by rw [zup3_v, if_neg (by first | decide | omega), z4 5 s 1 (by first | decide | omega)]⟩ (fun k x hk => z6 5 s k x (by first | decide | omega)) (fun k a b => by rw [z7 13 w k (by first | decide | omega), gn 13 w k (by first | decide | omega), g53]) (fun k x hk => by rw [z9 13 w k x (by first | decide | omega) (by first | decide | omega), y3 13 w k x (by first | decide | omega)])
    · rw [zup3_v, if_neg (by first | decide | omega), z4 6 p 11 (by first | decide | omega)]; exact x6.2
    · rw [s9]
      exact PFD_e z10 (by funext k; rw [zup3_v, if_neg (by first | decide | omega)]) rfl (fun _ _ => rfl) (fun _ _ _ _ => rfl)
    · rw [zup3_v, if_pos (by first | decide | omega)] at q; omega
    · rw [zup3_v, if_neg (by first | decide | omega)]
      by_cases e : k = 3
      · rw [e, z4 5 s 3 (by first | decide | omega)]; exact x11 3 (by first | decide | omega)
      · have : k = 2 ∨ k = 11 ∨ k = 12 ∨ k = 13 := by omega
        refine Or.inl ?_
        rcases this with rfl | rfl | rfl | rfl
        · exact z5.1
        · exact z5.2.1
        · exact z5.2.2.1
        · exact z5.2.2.2
    · have : k = 65 ∨ k = 66 ∨ k = 67 ∨ k = 68 ∨ k = 69 := by omega
      rcases this with rfl | rfl | rfl | rfl | rfl
      · exact z8.1
      · exact z8.2.1
      · exact z8.2.2.1
      · exact z8.2.2.2.1
      · exact z8.2.2.2.2
  · -- too many
    have e10 : F 6 p 10 = 0 := by
      rcases d10 with q | q
      · exact q
      · exfalso
        obtain ⟨e11, c, pfd⟩ := dp q
        obtain ⟨rfl, rfl⟩ := x10 e11
        rw [x6.1] at pfd
        have := pfd.1.1
        omega
    refine ⟨-2, s, F1, B1, K1, Fm1, Bm1, ?_, ?_, x2, x3, x4, x6.1, pF1, pB1, fun c y k q1 q2 => y2 c y k q1, fun c y k x q1 q2 => y3 c y k x (by first | decide | omega), ⟨Or.inl (by rw [f10]; exact e10), Or.inr x6.2, by rw [x6.1]; exact x3.2, fun _ => by rw [x6.1]; exact x7, fun _ => ⟨by rw [x6.1]; exact x3.1, ?_⟩, fun q => by rw [f10] at q; omega, fun _ => ?_⟩, x11, Or.inr (fun k _ => g53 k)⟩
    · rw [g1, if_pos (by decide), if_neg (by decide)]
    · rw [if_neg (by first | decide | omega)]
    · rw [x6.1]
      exact SDR_e x5 ⟨rfl, rfl⟩ (fun _ _ _ => rfl) (fun k a b => g53 k) (fun k x hk => y3 13 w k x (by first | decide | omega))
    · rw [g53]; exact dz e10
end
