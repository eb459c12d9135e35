section
/-! ===== the reference: the notes of a voice ===== -/
/-- the notes of all spans -/
def spA (n d b u : Int) : Int → List (Int × Int × Int × (Int → Int) × (Int → Int)) → List (Int × Int × Int)
  | _, [] => []
  | j, r :: rs => spN n d b j (u * r.1) (u * r.2.1) ++ spA n d b u (j + 1) rs
/-- the end of the bar in which a place lies -/
def cbE (b e : Int) : Int := if e % b = 0 then e else (e / b + 1) * b
def nG7 (w : Int) (F F' : zF) : Prop := ∀ c y k, ¬ (c = 14 ∧ y = 0 ∧ (k ≤ 1 ∨ 52 ≤ k ∧ k ≤ 57)) → ¬ (c = 13 ∧ y = w ∧ k = 7) → F' c y k = F c y k
theorem u_sd {u d p : Int} (hu : u = 128 ∨ u = 64 ∨ u = 32 ∨ u = 16) : (u * p) % sdU d = 0 := by
  have sd : (sdU d = 16) ∨ (sdU d = 4) := by unfold sdU; split <;> omega
  rcases sd with h | h <;> rw [h] <;> rcases hu with rfl | rfl | rfl | rfl <;> omega
theorem M_n22 {Km : Nat} {u v w n d b M : Int} (hKm : 70000000000 < Km) (v0 : 0 ≤ v ∧ v < 4) (w0 : 0 ≤ w ∧ w < 3) (hb : BRs n d b) (hu : u = 128 ∨ u = 64 ∨ u = 32 ∨ u = 16) (hM : 0 ≤ M ∧ u * M ≤ 100 * b) : ∀ (EL : List (Int × Int × Int × (Int → Int) × (Int → Int))) (m : Nat) (j p : Int) (L : List (Int × Int × Int)) (F : zF) (B : zB), EL.length < m → 0 ≤ j → j + (EL.length : Int) ≤ 1000 → 0 ≤ p → p ≤ M → CHN p EL → endN p EL ≤ M → B 13 w 12 v = j + (EL.length : Int) → F 13 w 4 = n → F 13 w 5 = d → EVn u w v B j EL → PLn u w v B j EL → NSt w v L B → ∃ p' F' B', f_M_notes_22 Km m j (de (X5 * (u * p))) (nu (X5 * (u * p))) w v 0 F B = f_M_notes_150 Km (de (X5 * (u * p'))) (nu (X5 * (u * p'))) w v 0 F' B' ∧ nG F F' ∧ nM' v w B B' ∧ NSt w v (L ++ spA n d b u j EL) B' ∧ (0 ≤ p' ∧ p' ≤ M) ∧ (p' = endN p EL ∨ 800 < (L ++ spA n d b u j EL).length) := by
  have hbb := BRs_b hb
  have xa : ∀ y : Int, X5 * y = 1587600 * y := fun _ => rfl
  intro EL
  induction EL with
  | nil =>
    intro m j p L F B hm j0 jl p0 pM hc hE h12 m4 m5 hv hpl hN
    obtain ⟨q, rfl⟩ : ∃ q, m = q + 1 := ⟨m - 1, by simp at hm; omega⟩
    rw [List.length_nil] at h12 jl
    refine ⟨p, F, B, ?_, fun _ _ _ _ => rfl, fun _ _ _ _ _ _ => rfl, by rw [spA, List.append_nil]; exact hN, ⟨p0, pM⟩, Or.inl rfl⟩
    rw [f_M_notes_22, if_pos w0, if_pos v0, if_pos (by unfold r32; omega), h12, if_pos (by unfold r32; omega), if_pos (by first | decide | omega)]
  | cons r rs ih =>
    intro m j p L F B hm j0 jl p0 pM hc hE h12 m4 m5 hv hpl hN
    rw [List.length_cons] at hm jl h12
    obtain ⟨q, rfl⟩ : ∃ q, m = q + 1 := ⟨m - 1, (by first | decide | omega)⟩
    obtain ⟨c1, c2, c3⟩ := hc
    have ce := CHN_e rs r.2.1 c3
    have hE' : endN r.2.1 rs ≤ M := hE
    obtain ⟨⟨h0, h1, h2, h4, h5, h6⟩, h'⟩ := hv
    obtain ⟨⟨g1, g2⟩, g'⟩ := hpl
    obtain ⟨c, cc1, cc2, cc3, cc4⟩ := NSt_c hN
    have pb : 0 ≤ u * p ∧ 0 ≤ u * (r.2.1 - r.1) ∧ u * p + u * (r.2.1 - r.1) = u * r.2.1 ∧ u * r.2.1 ≤ u * M ∧ u * p ≤ u * r.2.1 ∧ u * r.1 = u * p := by rcases hu with rfl | rfl | rfl | rfl <;> omega
    by_cases lc : 800 < L.length
    · refine ⟨p, F, B, ?_, fun _ _ _ _ => rfl, fun _ _ _ _ _ _ => rfl, NSt_m hN lc, ⟨p0, pM⟩, Or.inr (by rw [List.length_append]; omega)⟩
      rw [f_M_notes_22, if_pos w0, if_pos v0, if_pos (by unfold r32; omega), h12, if_pos (by unfold r32; omega), if_neg (by first | decide | omega), cc1, if_pos (by unfold r32; omega), if_pos (by first | decide | omega)]
    · have x1 := xa (u * p)
      have x2 := xa (u * (r.2.1 - r.1))
      have x3 := xa (u * r.2.1)
      have hE1 : ((j = -1) ∨ ((0 ≤ j ∧ j < 1000) ∧ r32 (B 13 w 21 (1000 * v + j)) ∧ B 13 w 22 (1000 * v + j) = 0)) := Or.inr ⟨(by first | decide | omega), by rw [h5]; unfold r32; omega, h4⟩
      obtain ⟨F1, B1, u1, u2, u3, u4⟩ := M_pcs (Km := Km) (ev := j) (e := u * r.2.1) hKm v0 w0 hb (u_sd hu) (by first | decide | omega) (u * r.2.1 - u * p).toNat Km (u * p) L F B (by first | decide | omega) (by first | decide | omega) pb.1 (by first | decide | omega) (u_sd hu) m4 m5 hE1 hN
      have el : u * r.2.1 - u * p = u * (r.2.1 - r.1) := by omega
      rw [el] at u1
      have fn : ∀ c y k, ¬ (c = 14 ∧ y = 0 ∧ k ≤ 1) → fr F1 (X5 * (u * r.2.1)) c y k = F1 c y k := fun c y k n => fr_n n
      have mm : ∀ k y, ¬ k = 13 → ¬ (30 ≤ k ∧ k ≤ 35) → B1 13 w k y = B 13 w k y := fun k y a b => u3 13 w k y (by first | decide | omega) (by first | decide | omega)
      have hPf : PLn u w v B1 (j + 1) rs := by
        have : ∀ (rs : List (Int × Int × Int × (Int → Int) × (Int → Int))) (j : Int), PLn u w v B j rs → PLn u w v B1 j rs := by
          intro rs
          induction rs with
          | nil => intro j _; trivial
          | cons s ss ih2 => intro j h; exact ⟨by rw [mm 14 _ (by first | decide | omega) (by first | decide | omega), mm 15 _ (by first | decide | omega) (by first | decide | omega)]; exact h.1, ih2 (j + 1) h.2⟩
        exact this rs (j + 1) g'
      obtain ⟨p', F2, B2, y1, y2, y3, y4, y5, y6⟩ := ih q (j + 1) r.2.1 (L ++ spN n d b j (u * p) (u * r.2.1)) (fr F1 (X5 * (u * r.2.1))) B1 (by first | decide | omega) (by first | decide | omega) (by first | decide | omega) (by first | decide | omega) (by first | decide | omega) c3 hE' (by rw [mm 12 v (by first | decide | omega) (by first | decide | omega), h12]; omega) (by rw [fn 13 w 4 (by first | decide | omega), u2 13 w 4 (by first | decide | omega)]; exact m4) (by rw [fn 13 w 5 (by first | decide | omega), u2 13 w 5 (by first | decide | omega)]; exact m5) (EVn_f rs (j + 1) h' (fun k y hk a b => mm k y (by first | decide | omega) (by first | decide | omega)) (fun k y hk a b => mm k y (by first | decide | omega) (by first | decide | omega))) hPf u4
      refine ⟨p', F2, B2, ?_, fun c y k n => by rw [y2 c y k n, fn c y k (by first | decide | omega), u2 c y k n], nM_t u3 y3, ?_, y5, ?_⟩
      · rw [f_M_notes_22, if_pos w0, if_pos v0, if_pos (by unfold r32; omega), h12, if_pos (by unfold r32; omega), if_neg (by first | decide | omega), cc1, if_pos (by unfold r32; omega), if_neg (by first | decide | omega), if_pos (by first | decide | omega), g1, g2, h1, h2, pb.2.2.2.2.2]
        have e0 : f_M_pieces Km w v j (nu (X5 * (u * p))) (de (X5 * (u * p))) (nu (X5 * (u * (r.2.1 - r.1)))) (de (X5 * (u * (r.2.1 - r.1)))) 0 F B = some (0, F1, B1) := u1
        rw [e0, zb_s, mm 14 _ (by first | decide | omega) (by first | decide | omega), mm 15 _ (by first | decide | omega) (by first | decide | omega), mm 16 _ (by first | decide | omega) (by first | decide | omega), mm 17 _ (by first | decide | omega) (by first | decide | omega), g1, g2, h1, h2, pb.2.2.2.2.2, L_plusR (by first | decide | omega) (FR_r (by first | decide | omega)) (FR_r (by first | decide | omega)) (by first | decide | omega), zb_s, show X5 * (u * p) + X5 * (u * (r.2.1 - r.1)) = X5 * (u * r.2.1) by omega, fr_0, fr_1]
        exact y1
      · rw [spA, pb.2.2.2.2.2]
        rw [List.append_assoc] at y4
        exact y4
      · rw [spA, pb.2.2.2.2.2]
        rw [List.append_assoc] at y6
        exact y6
theorem M_n150 {Km : Nat} {v w n d b E : Int} {L : List (Int × Int × Int)} {F : zF} {B : zB} (hKm : 70000000000 < Km) (v0 : 0 ≤ v ∧ v < 4) (w0 : 0 ≤ w ∧ w < 3) (hb : BRs n d b) (e0 : 0 ≤ E ∧ E ≤ 100 * b) (he : E % sdU d = 0) (m4 : F 13 w 4 = n) (m5 : F 13 w 5 = d) (hN : NSt w v L B) : ∃ c F' B', f_M_notes_150 Km (de (X5 * E)) (nu (X5 * E)) w v 0 F B = some (c, F', B') ∧ nG7 w F F' ∧ nM' v w B B' ∧ NSt w v (L ++ spN n d b (-1) E (cbE b E)) B' ∧ B' 13 w 13 v = c := by
  obtain ⟨b1, b2, b3, _, b5, b6⟩ := BRs_b hb
  have hn := hb.1
  have hd := hb.2.1
  have eb := hb.2.2
  have sd : (sdU d = 16) ∨ (sdU d = 4) := by unfold sdU; split <;> omega
  obtain ⟨bv1, _, _, bv4, bv5⟩ := bar_v hn hd
  rw [bar5 (n := n) hd, ← eb] at bv1 bv4 bv5
  have xa : ∀ y : Int, X5 * y = 1587600 * y := fun _ => rfl
  have x1 := xa E
  have x2 := xa b
  have rn : r32 n := by unfold r32; omega
  have rd : r32 d := by unfold r32; omega
  have q0 : 0 ≤ E / b := Int.ediv_nonneg e0.1 (by first | decide | omega)
  have q1 : E / b ≤ E := Int.ediv_le_self _ e0.1
  have mo : (X5 * E) % (X5 * b) = X5 * (E % b) := Int.mul_emod_mul_of_pos E b (by decide)
  have m0 := Int.emod_nonneg E (show b ≠ 0 by omega)
  have m1 := Int.emod_lt_of_pos E (show 0 < b by omega)
  have dm := Int.emod_add_mul_ediv E b
  have x3 := xa (E % b)
  unfold f_M_notes_150
  rw [if_pos w0, m4, m5, if_pos rn, if_pos rd, L_oftR (FR_r (by first | decide | omega)) bv5 (by first | decide | omega) (by first | decide | omega) (by first | decide | omega) (by first | decide | omega) (by first | decide | omega) (by first | decide | omega), zb_s, X5_d, if_pos (by unfold r32; omega), m4, m5, if_pos rn, if_pos rd, L_multR (FR_r (by first | decide | omega)) bv5 (by first | decide | omega) (by first | decide | omega) (by first | decide | omega) (by first | decide | omega) (by first | decide | omega) (by first | decide | omega), zb_s, mo]
  have z7 : ∀ (r : Int) c y k, ¬ (c = 13 ∧ y = w ∧ k = 7) → (zup3 F 13 w 7 r) c y k = F c y k := fun r c y k n => by rw [zup3_v, if_neg n]
  by_cases z : E % b = 0
  · have ce : cbE b E = E := by unfold cbE; rw [if_pos z]
    rw [if_pos (show X5 * (E % b) = 0 by omega), if_pos (show r32 1 by decide), if_neg (show ¬ (1 : Int) = 0 by decide), f_M_notes_248, if_pos w0, if_pos v0, ce, spN_0 (by first | decide | omega), List.append_nil]
    exact ⟨_, _, B, rfl, fun c y k n n' => z7 _ c y k n', fun _ _ _ _ _ _ => rfl, hN, rfl⟩
  · have ce : cbE b E = (E / b + 1) * b := by unfold cbE; rw [if_neg z]
    have nb1 : (E / b + 1) * b = b * (E / b) + b := by rw [Int.add_mul, Int.one_mul, Int.mul_comm]
    have cb1 : (E / b + 1) * b ≤ 100 * b := by
      have l1 := (Int.ediv_lt_iff_lt_mul (show 0 < b by omega) (a := E) (b := 100)).mpr (by
        by_cases y : E = 100 * b
        · rw [y, Int.mul_emod_left] at z; exact absurd rfl z
        · omega)
      exact Int.mul_le_mul_of_nonneg_right (by first | decide | omega) (by first | decide | omega)
    have x4 := xa ((E / b + 1) * b)
    have f1 : FR ((E / b + 1) * n) d (X5 * ((E / b + 1) * b)) := by
      have := FR_k bv1 (show 0 ≤ E / b + 1 by omega)
      rwa [show (E / b + 1) * (X5 * b) = X5 * ((E / b + 1) * b) by ac_rfl] at this
    have em : ((E / b + 1) * b) % sdU d = 0 := by
      obtain ⟨j, hj⟩ : ∃ j, b = sdU d * j := ⟨b / sdU d, by rcases sd with h | h <;> rw [h] at b3 ⊢ <;> omega⟩
      rw [show (E / b + 1) * b = sdU d * ((E / b + 1) * j) by rw [hj]; ac_rfl]
      exact Int.mul_emod_right _ _
    have x5 := xa ((E / b + 1) * b - E)
    rw [if_neg (show ¬ X5 * (E % b) = 0 by omega), if_pos (show r32 0 by decide), if_pos (show (0 : Int) = 0 from rfl), z7 _ 13 w 4 (by first | decide | omega), z7 _ 13 w 5 (by first | decide | omega), m4, m5, if_pos rn, if_pos rd, L_minusR (by first | decide | omega) f1 (FR_r (by first | decide | omega)) (by first | decide | omega) (by first | decide | omega), zb_s, show X5 * ((E / b + 1) * b) - X5 * E = X5 * ((E / b + 1) * b - E) by omega, fr_0, fr_1, ce]
    generalize hF1 : fr (zup3 (zup3 F 13 w 7 (E / b)) 13 w 7 (E / b + 1)) (X5 * ((E / b + 1) * b - E)) = F1
    have fn : ∀ c y k, ¬ (c = 14 ∧ y = 0 ∧ k ≤ 1) → ¬ (c = 13 ∧ y = w ∧ k = 7) → F1 c y k = F c y k := fun c y k n n' => by rw [← hF1, fr_n n, zup3_v, if_neg n', zup3_v, if_neg n']
    obtain ⟨F2, B2, u1, u2, u3, u4⟩ := M_pcs (Km := Km) (ev := -1) (e := (E / b + 1) * b) hKm v0 w0 hb em cb1 ((E / b + 1) * b - E).toNat Km E L F1 B (by first | decide | omega) (by first | decide | omega) e0.1 (by first | decide | omega) he (by rw [fn 13 w 4 (by first | decide | omega) (by first | decide | omega)]; exact m4) (by rw [fn 13 w 5 (by first | decide | omega) (by first | decide | omega)]; exact m5) (Or.inl rfl) hN
    have u1' : f_M_pieces Km w v (-1) (nu (X5 * E)) (de (X5 * E)) (nu (X5 * ((E / b + 1) * b - E))) (de (X5 * ((E / b + 1) * b - E))) 0 F1 B = some (0, F2, B2) := u1
    rw [u1', zb_s, f_M_notes_248, if_pos w0, if_pos v0]
    exact ⟨_, F2, B2, rfl, fun c y k n n' => by rw [u2 c y k n, fn c y k (by first | decide | omega) n'], u3, u4, rfl⟩
theorem M_nts {Km : Nat} {u v w n d b M : Int} {EL : List (Int × Int × Int × (Int → Int) × (Int → Int))} {F : zF} {B : zB} (hKm : 70000000000 < Km) (v0 : 0 ≤ v ∧ v < 4) (w0 : 0 ≤ w ∧ w < 3) (hb : BRs n d b) (hu : u = 128 ∨ u = 64 ∨ u = 32 ∨ u = 16) (hM : 0 ≤ M ∧ u * M ≤ 100 * b) (el : (EL.length : Int) ≤ 1000) (hc : CHN 0 EL) (hE : endN 0 EL ≤ M) (h12 : B 13 w 12 v = (EL.length : Int)) (m4 : F 13 w 4 = n) (m5 : F 13 w 5 = d) (hv : EVn u w v B 0 EL) (hpl : PLn u w v B 0 EL) : ∃ c F' B', f_M_notes Km w v 0 F B = some (c, F', B') ∧ nG7 w F F' ∧ nM' v w B B' ∧ NSt w v (spA n d b u 0 EL ++ spN n d b (-1) (u * endN 0 EL) (cbE b (u * endN 0 EL))) B' ∧ B' 13 w 13 v = c := by
  unfold f_M_notes
  rw [if_pos w0, if_pos v0, L_isR (by first | decide | omega) (p := 0) ⟨by decide, ⟨WW, by decide⟩, by decide, by decide⟩ (by decide), zb_s]
  have z13 : ∀ c i k y, ¬ (c = 13 ∧ i = w ∧ k = 13 ∧ y = v) → (zup4 B 13 w 13 v 0) c i k y = B c i k y := fun c i k y n => by rw [zup4_v, if_neg n]
  have hP : PLn u w v (zup4 B 13 w 13 v 0) 0 EL := by
    have : ∀ (rs : List (Int × Int × Int × (Int → Int) × (Int → Int))) (j : Int), PLn u w v B j rs → PLn u w v (zup4 B 13 w 13 v 0) j rs := by
      intro rs
      induction rs with
      | nil => intro j _; trivial
      | cons s ss ih2 => intro j h; exact ⟨by rw [z13 13 w 14 _ (by first | decide | omega), z13 13 w 15 _ (by first | decide | omega)]; exact h.1, ih2 (j + 1) h.2⟩
    exact this EL 0 hpl
  have hp0 : 0 ≤ M := hM.1
  obtain ⟨p', F1, B1, y1, y2, y3, y4, y5, y6⟩ := M_n22 (Km := Km) (u := u) (v := v) (w := w) (M := M) hKm v0 w0 hb hu hM EL Km 0 0 [] (fr F 0) (zup4 B 13 w 13 v 0) (by first | decide | omega) (by first | decide | omega) (by first | decide | omega) (by first | decide | omega) hp0 hc hE (by rw [z13 13 w 12 v (by first | decide | omega), h12]; omega) (by rw [fr_n (by first | decide | omega)]; exact m4) (by rw [fr_n (by first | decide | omega)]; exact m5) (EVn_f EL 0 hv (fun k y hk a b => z13 13 w k y (by first | decide | omega)) (fun k y hk a b => z13 13 w k y (by first | decide | omega))) hP (Or.inl ⟨by simp, by rw [zup4_v, if_pos (by first | decide | omega)]; simp, trivial⟩)
  have n0 : nu (X5 * (u * 0)) = 0 ∧ de (X5 * (u * 0)) = 1 := by
    rw [Int.mul_zero, Int.mul_zero]; decide
  rw [n0.1, n0.2] at y1
  have pe : 0 ≤ u * p' ∧ u * p' ≤ u * M := by rcases hu with rfl | rfl | rfl | rfl <;> omega
  obtain ⟨c, F2, B2, u1, u2, u3, u4, u5⟩ := M_n150 (Km := Km) (v := v) (w := w) (E := u * p') (L := [] ++ spA n d b u 0 EL) (F := F1) (B := B1) hKm v0 w0 hb (by first | decide | omega) (u_sd hu) (by rw [y2 13 w 4 (by first | decide | omega), fr_n (by first | decide | omega)]; exact m4) (by rw [y2 13 w 5 (by first | decide | omega), fr_n (by first | decide | omega)]; exact m5) y4
  refine ⟨c, F2, B2, by rw [y1, u1], fun c y k n n' => by rw [u2 c y k n n', y2 c y k n, fr_n (by first | decide | omega)], fun c i k y n n' => by rw [u3 c i k y n n', y3 c i k y n n', z13 c i k y n], ?_, u5⟩
  rcases y6 with q | q
  · rw [q, List.nil_append] at u4; exact u4
  · rw [List.nil_append] at q u4
    rcases u4 with ⟨a, _⟩ | ⟨_, b'⟩
    · rw [List.length_append] at a; omega
    · exact Or.inr ⟨by rw [List.length_append]; omega, b'⟩
end
