section
/-! ===== the walk: slow, use ===== -/
theorem exN_3 {p x : Int} : exN p x ≤ 3 := by
  unfold exN
  split
  · split
    · split <;> omega
    · omega
  · omega
theorem P_slI {K : zK} {Km : Nat} {N nl q v w bar x i : Int} {B0 Bm0 : zB} {D m : Nat} {o : oT_CW} {oM oM' : oT_W} {R : zB → zB → Int → Int → Prop} {F : zF} {B : zB} {Fm : zF} {Bm : zB} (hL : LSim K Km N nl q v w bar B0 Bm0 (D + 1) o.1 oM'.1 R) (hG : ∀ F B, oM.2.2.2.2.2.2.2 i F B = fb_M_goSlow oM' Km i F B) (hx : 0 ≤ x ∧ x < 3000) (hi : 0 ≤ i ∧ i < N) (hT : WT N B0 Bm0 B Bm) (hnl : Fm 14 0 27 = nl) (hC : WC K Km N q v w bar B Fm Bm) (hS : WS q v w bar D F B Fm Bm) (hD : D < 64) (k0 : B0 3 0 0 x = 9) (hw : wdAt Bm0 i 1936486263) (n1 : nmAt Bm0 (i + 1) (B0 3 0 2 x) 1 8) (n2 : nmAt Bm0 (i + 3) (B0 3 0 3 x) 1 8) (hb : i + 4 < Bm0 14 0 30 (i + 4) ∧ Bm0 14 0 30 (i + 4) ≤ 3000) (hl : LRf R B0 Bm0 m (B0 3 0 4 x) (i + 4 + 1) (Bm0 14 0 30 (i + 4))) : zP (fb_Walker_goItem o K 0 x D F B) (fb_M_go oM Km i Fm Bm) (fun _ F' B' _ Fm' Bm' => WO q v w bar D F B Fm Bm F' B' Fm' Bm') := by
  have hC' := hC
  have hS' := hS
  obtain ⟨hK, hKm, h11, h3, h4, v0, w0, ⟨N0, N1, hTK⟩, _⟩ := hC
  obtain ⟨⟨a1, a2, a3, a4⟩, _, ⟨c1, c2, c3⟩, s4, s5, s6, s7, s8, s9, _, hm, ⟨z1, z2, z3, z4⟩, _⟩ := hS
  have aN : i + 4 < N := by
    rcases Int.lt_or_le (i + 4) N with z | z
    · exact z
    · have := (hT.2.2.2 (i + 4) z).1
      omega
  have m7 : Bm 14 0 7 i = 4 := by rw [hT.2.1 7 i (by decide)]; exact hw.1
  have m11 : Bm 14 0 11 i = 1936486263 := by rw [hT.2.1 11 i (by decide)]; exact hw.2
  have p1 : Bm 14 0 9 (i + 1) = B0 3 0 2 x := by rw [hT.2.1 9 _ (by decide)]; exact n1.2.1
  have p2 : Bm 14 0 9 (i + 3) = B0 3 0 3 x := by rw [hT.2.1 9 _ (by decide)]; exact n2.2.1
  have p3 : Bm 14 0 30 (i + 4) = Bm0 14 0 30 (i + 4) := hT.2.2.1 30 (i + 4) (by decide) (by decide) aN
  have q2 : B 3 0 2 x = B0 3 0 2 x := hT.1 2 x
  have q3 : B 3 0 3 x = B0 3 0 3 x := hT.1 3 x
  have q4 : B 3 0 4 x = B0 3 0 4 x := hT.1 4 x
  have n1' := n1.2.2
  have n2' := n2.2.2
  clear n1 n2 hw
  generalize ea : B0 3 0 2 x = a at p1 q2 n1'
  generalize ec : B0 3 0 3 x = c at p2 q3 n2'
  obtain ⟨B1, e1, u1, d1⟩ := C_mul (K := K) (F := F) (B := B) (s := 1) h11 (by first | decide | omega) n1'.1 n1'.2
  obtain ⟨B2, e2, u2, d2⟩ := C_mul (K := K) (F := F) (B := B1) (s := -1) h11 (by first | decide | omega) n2'.1 n2'.2
  obtain ⟨M1, e3, u3, d3⟩ := L_pow (K := Km) (F := Fm) (B := Bm) (s := 1) (by first | decide | omega) n1'.1 n1'.2
  obtain ⟨M2, e4, u4, d4⟩ := L_pow (K := Km) (F := Fm) (B := M1) (s := -1) (by first | decide | omega) n2'.1 n2'.2
  have bn : ∀ c y k j, ¬ (c = 11 ∧ y = 0 ∧ k = 14) → B2 c y k j = B c y k j := fun c y k j n => by rw [d2 c y k j n, d1 c y k j n]
  have mn : ∀ c y k j, ¬ (c = 14 ∧ y = 0 ∧ k = 51) → M2 c y k j = Bm c y k j := fun c y k j n => by rw [d4 c y k j (by first | decide | omega), d3 c y k j (by first | decide | omega)]
  rw [(L_goW (by first | decide | omega) m7).2.2.2.2 m11, hG, fb_M_goSlow, if_pos (by first | decide | omega), p1, e3, zb_s, if_pos (by first | decide | omega), d3 14 0 9 _ (by first | decide | omega), p2, e4, zb_s, if_pos (by first | decide | omega), mn 14 0 30 _ (by first | decide | omega), p3]
  rw [fb_Walker_goItem, if_pos ⟨Int.le_refl _, h11⟩, a1, if_pos ⟨Int.le_refl _, h3⟩, if_pos hx, hT.1 0 x, k0, if_pos (by decide), if_neg (by decide), if_neg (by decide), if_neg (by decide), if_neg (by decide), if_neg (by decide), if_neg (by decide), if_neg (by decide), if_neg (by decide), if_neg (by decide), if_pos rfl, q2, q4, e1, zb_s, a1, if_pos ⟨Int.le_refl _, h3⟩, d1 3 0 3 x (by first | decide | omega), q3, e2, zb_s]
  have fr : WFR q v w F B Fm Bm F B2 Fm M2 := WFR_mk (fun _ _ _ _ => rfl) (fun _ _ _ _ => rfl) (fun c y k j n => bn c y k j (by first | decide | omega)) (fun c y k j n => mn c y k j (by first | decide | omega))
  have pw : ∀ k, 0 ≤ k → k < 4 → B2 11 0 14 k = B 11 0 14 k + exN (prN k) a - exN (prN k) c ∧ M2 14 0 51 (prN k) = Bm 14 0 51 (prN k) + exN (prN k) a - exN (prN k) c := fun k u t => by
    rw [u2 k u t, u1 k u t, u4 k u t, u3 k u t]
    constructor <;> omega
  have sX : WS q v w bar (D + 1) F B2 Fm M2 := by
    refine WS_mk hS' (fun _ _ _ _ => rfl) (fun _ _ _ _ => rfl) (fun c y k j n => bn c y k j (by first | decide | omega)) (fun c y k j n => mn c y k j (by first | decide | omega)) s4 (by first | decide | omega) (by first | decide | omega) s7 ?_ ?_ ?_ ?_
    · rw [mn 14 0 8 _ (by first | decide | omega)]; exact s8
    · exact TPL_c s9 (fun k _ _ => ⟨mn 14 0 46 k (by first | decide | omega), mn 14 0 47 k (by first | decide | omega)⟩)
    · intro k u t
      have y1 := hm k u t
      have y2 := pw k u t
      have y3 := exN_3 (p := prN k) (x := a)
      have y4 := exN_3 (p := prN k) (x := c)
      omega
    · refine ⟨z1, z2, (by first | decide | omega), fun k u t => ?_⟩
      have := z4 k u t
      unfold CRk at this ⊢
      rw [bn 11 0 15 k (by first | decide | omega), bn 11 0 16 k (by first | decide | omega), bn 11 0 17 k (by first | decide | omega), mn 14 0 42 k (by first | decide | omega), mn 14 0 43 k (by first | decide | omega), mn 14 0 44 k (by first | decide | omega)]
      exact this
  have W := hL.1 m (B0 3 0 4 x) (i + 4 + 1) (Bm0 14 0 30 (i + 4)) F B2 Fm M2 hl (by first | decide | omega) hb.2 (WT_f hT fr) hnl (WC_f hC' fr) sX
  obtain ⟨r, F3, B3, r', G3, M3, y1, y2, W⟩ := W
  rw [show ((D + 1 : Nat) : Int) = (D : Int) + 1 by omega] at y1
  rw [y1, y2, zb_s, zb_s]
  have t3 := WT_f (WT_f hT fr) W.1
  have f0 : F3 11 0 0 = 0 := by
    rcases W.2 with ⟨s, _⟩ | s
    · exact s.1.1
    · exact s.1
  obtain ⟨B4, e5, u5, d5⟩ := C_mul (K := K) (F := F3) (B := B3) (s := -1) h11 (by first | decide | omega) n1'.1 n1'.2
  obtain ⟨B5, e6, u6, d6⟩ := C_mul (K := K) (F := F3) (B := B4) (s := 1) h11 (by first | decide | omega) n2'.1 n2'.2
  obtain ⟨M4, e7, u7, d7⟩ := L_pow (K := Km) (F := G3) (B := M3) (s := -1) (by first | decide | omega) n1'.1 n1'.2
  obtain ⟨M5, e8, u8, d8⟩ := L_pow (K := Km) (F := G3) (B := M4) (s := 1) (by first | decide | omega) n2'.1 n2'.2
  have r1 : M3 14 0 9 (i + 1) = a := by rw [t3.2.1 9 _ (by decide), ← hT.2.1 9 _ (by decide)]; exact p1
  have r2 : M4 14 0 9 (i + 3) = c := by rw [d7 14 0 9 _ (by first | decide | omega), t3.2.1 9 _ (by decide), ← hT.2.1 9 _ (by decide)]; exact p2
  have r3 : B3 3 0 2 x = a := by rw [t3.1 2 x]; exact ea
  have r4 : B4 3 0 3 x = c := by rw [d5 3 0 3 x (by first | decide | omega), t3.1 3 x]; exact ec
  rw [f0, if_pos ⟨Int.le_refl _, h3⟩, r3, e5, zb_s, f0, if_pos ⟨Int.le_refl _, h3⟩, r4, e6, zb_s, f_Walker_goItem_285, r1, e7, zb_s, r2, e8, zb_s, zb_s]
  refine zP_s (WO_close hS' fr W (fun _ _ _ _ => rfl) (fun _ _ _ _ => rfl) (fun c y k j n => by rw [d6 c y k j n, d5 c y k j n]) (fun c y k j n => by rw [d8 c y k j (by first | decide | omega), d7 c y k j (by first | decide | omega)]) ?_ (fun k _ _ => ⟨bn _ _ _ _ (by first | decide | omega), bn _ _ _ _ (by first | decide | omega), bn _ _ _ _ (by first | decide | omega), mn _ _ _ _ (by first | decide | omega), mn _ _ _ _ (by first | decide | omega), mn _ _ _ _ (by first | decide | omega)⟩) (fun k _ _ => ⟨mn _ _ _ _ (by first | decide | omega), mn _ _ _ _ (by first | decide | omega)⟩) (Int.le_refl _) (Int.le_refl _) (fun _ => ⟨rfl, rfl, rfl⟩) rfl)
  intro s kp
  obtain ⟨⟨k5, k6, k9, k10, k18⟩, kw, _⟩ := kp
  obtain ⟨_, _, _, _, ⟨t5, _⟩, ⟨t6, _⟩, _, _, _, _, t11, ⟨t12, _⟩, _⟩ := s
  refine ⟨⟨k5, k6, k9, k10, k18⟩, ⟨by rw [← t5, k5, s5.1], by rw [← t12, k18, z1], by rw [← t6, k6, s6.1]⟩, fun k u t => ?_⟩
  have y1 := (pw k u t).1
  have y2 := (t11 k u t).1
  have y3 := kw k u t
  have y4 := (hm k u t).1
  rw [u6 k u t, u5 k u t, u8 k u t, u7 k u t]
  constructor <;> omega
theorem fdR_i {row : Int → Int} {m w q : Int} : ∀ {f : Nat} {k : Int}, k ≤ q → q < m → q - k < f → row q = w → (∀ p, k ≤ p → p < q → ¬ row p = w) → fdR row m w f k = q := by
  intro f
  induction f with
  | zero => intro k a b c _ _; omega
  | succ f ih =>
    intro k a b c d e
    unfold fdR
    rw [if_neg (by first | decide | omega)]
    by_cases h : k = q
    · rw [h, if_pos d]
    · rw [if_neg (e k (Int.le_refl _) (by first | decide | omega))]
      exact ih (by first | decide | omega) b (by first | decide | omega) d (fun p u t => e p (by first | decide | omega) t)
/-- the lets told so far -/
def LTW (nl : Int) (B0 Bm0 : zB) : Prop := (0 ≤ nl ∧ nl ≤ 6) ∧ ∀ p, 0 ≤ p → p < nl → (0 ≤ B0 3 0 13 p ∧ B0 3 0 13 p < 3000) ∧ r64 (Bm0 14 0 25 p) ∧ 0 ≤ Bm0 14 0 26 p ∧ BKf (IRd p 7) B0 Bm0 (B0 3 0 13 p) (Bm0 14 0 26 p)
theorem P_usI {K : zK} {Km : Nat} {N nl L q v w bar x i : Int} {B0 Bm0 : zB} {D : Nat} {o : oT_CW} {oM oM' : oT_W} {F : zF} {B : zB} {Fm : zF} {Bm : zB} (hL : ∀ p, 0 ≤ p → p < L → LSim K Km N nl q v w bar B0 Bm0 (D + 1) o.1 oM'.1 (IRd p 7)) (hLn : L ≤ nl) (hLT : LTW nl B0 Bm0) (hG : ∀ F B, oM.2.2.2.2.1 i F B = fb_M_goUse oM' Km i F B) (hx : 0 ≤ x ∧ x < 3000) (hi : 0 ≤ i ∧ i < N) (hT : WT N B0 Bm0 B Bm) (hnl : Fm 14 0 27 = nl) (hC : WC K Km N q v w bar B Fm Bm) (hS : WS q v w bar D F B Fm Bm) (hD : D < 64) (k0 : B0 3 0 0 x = 5) (hu : usR L B0 Bm0 x i) : zP (fb_Walker_goItem o K 0 x D F B) (fb_M_go oM Km i Fm Bm) (fun _ F' B' _ Fm' Bm' => WO q v w bar D F B Fm Bm F' B' Fm' Bm') := by
  have hC' := hC
  obtain ⟨hK, hKm, h11, h3, h4, v0, w0, ⟨N0, N1, hTK⟩, _⟩ := hC
  have a1 := hS.1.1
  obtain ⟨hw, p, ⟨p0, p1⟩, pe, px, pn⟩ := hu
  obtain ⟨⟨l0, l6⟩, hLp⟩ := hLT
  obtain ⟨⟨x0, x1⟩, r25, r26, b1, b2, m, hl⟩ := hLp p p0 (by first | decide | omega)
  have m7 : Bm 14 0 7 i = 4 := by rw [hT.2.1 7 i (by decide)]; exact hw.1
  have m11 : Bm 14 0 11 i = 7697253 := by rw [hT.2.1 11 i (by decide)]; exact hw.2
  have fd : fdR (Bm 14 0 25) nl (Bm 14 0 11 (i + 1)) 22 0 = p := by
    refine fdR_i p0 (by first | decide | omega) (by first | decide | omega) ?_ (fun y u t => ?_)
    · rw [hT.2.1 25 p (by decide), hT.2.1 11 _ (by decide)]; exact pe
    · rw [hT.2.1 25 y (by decide), hT.2.1 11 _ (by decide)]; exact pn y u t
  have r11 : r64 (Bm 14 0 11 (i + 1)) := by rw [hT.2.1 11 _ (by decide), ← pe]; exact r25
  have aN : Bm0 14 0 26 p < N := by
    rcases Int.lt_or_le (Bm0 14 0 26 p) N with z | z
    · exact z
    · have := (hT.2.2.2 _ z).1
      omega
  rw [(L_goW (by first | decide | omega) m7).2.1 m11, hG, fb_M_goUse, if_pos (by first | decide | omega), hnl, L_find (by first | decide | omega) (by decide) (by rw [show lnM 14 0 25 = 6 by decide]; omega) (by decide) (by decide) (by first | decide | omega) (fun y u t => by rw [hT.2.1 25 y (by decide)]; exact (hLp y u t).2.1) r11, zb_s, fd, if_pos (by first | decide | omega), hT.2.1 26 p (by decide), if_pos (by first | decide | omega), hT.2.2.1 30 _ (by decide) (by decide) aN]
  rw [fb_Walker_goItem, if_pos ⟨Int.le_refl _, h11⟩, a1, if_pos ⟨Int.le_refl _, h3⟩, if_pos hx, hT.1 0 x, k0, if_pos (by decide), if_neg (by decide), if_neg (by decide), if_neg (by decide), if_neg (by decide), if_neg (by decide), if_pos rfl, hT.1 2 x, px, if_pos ⟨x0, x1⟩, hT.1 4 _]
  have W := (hL p p0 p1).1 m _ _ _ F B Fm Bm hl (by first | decide | omega) b2 hT hnl hC' (WS_up hS)
  obtain ⟨r, F3, B3, r', G3, M3, y1, y2, W⟩ := W
  rw [show ((D + 1 : Nat) : Int) = (D : Int) + 1 by omega] at y1
  rw [y1, y2, zb_s, zb_s, f_Walker_goItem_285, zb_s]
  exact zP_s (WO_same hS W)
end
