section
/-! ===== events, on both sides ===== -/
theorem zb_a {x : zO} {k k' : Int → zF → zB → zO} : zbind (zbind x k) k' = zbind x (fun r F B => zbind (k r F B) k') := by
  cases x with
  | none => rfl
  | some q => rfl
def fresh (B Bm : zB) (x j s : Int) : Prop := B 3 0 0 x = s ∧ B 3 0 1 x = Bm 14 0 8 j ∧ B 3 0 2 x = 0 ∧ B 3 0 3 x = -1 ∧ B 3 0 4 x = -1 ∧ B 3 0 5 x = -1 ∧ B 3 0 6 x = 0 ∧ B 3 0 7 x = 0
/-- an item is taken, the same on both sides -/
def OKI (L : Int) (d : Nat) (N j x : Int) (F : zF) (F' : zF) (B' : zB) (Fm' : zF) (Bm' : zB) : Prop := ∃ j', j < j' ∧ PS N j' F' B' Fm' Bm' ∧ Bm' 14 0 31 j = j' ∧ F' 3 0 18 = F 3 0 18 ∧ (F 3 0 14 ≤ F' 3 0 14 ∧ F' 3 0 14 - F 3 0 14 ≤ j' - j - 1) ∧ F 3 0 15 ≤ F' 3 0 15 ∧ B' 3 0 5 x = -1 ∧ SIR L d x j (F' 3 0 14) (F 3 0 15) (F' 3 0 15) j' B' Bm'
def IPO (L : Int) (d : Nat) (N j x : Int) (F : zF) (B : zB) (Fm : zF) (Bm : zB) (r : Int) (F' : zF) (B' : zB) (Fm' : zF) (Bm' : zB) : Prop := fF F F' ∧ fG Fm Fm' ∧ fB x (F 3 0 15) B B' ∧ fH j Bm Bm' ∧ (r = 1 ∧ (OKI L d N j x F F' B' Fm' Bm' ∨ DEL N F' B' Fm' Bm') ∨ r = 0 ∧ ERR F' Fm')
theorem IRd_l {L : Int} {d : Nat} {B Bm : zB} {x i : Int} (h : IRl L B Bm x i) : IRd L d B Bm x i := by
  cases d with
  | zero => exact h
  | succ d => exact Or.inl h
theorem pitR_c {B Bm Bx By : zB} {p i m pl ph : Int} (h : pitR B Bm p i m) (hB : ∀ k y, 8 ≤ k → k ≤ 10 → pl ≤ y → y < ph → Bx 3 0 k y = B 3 0 k y) (hp : pl ≤ p ∧ p + m ≤ ph) (hM : ∀ k, 7 ≤ k → k ≤ 11 → By 14 0 k = Bm 14 0 k) : pitR Bx By p i m := by
  intro k k0 k1
  rw [hB 8 _ (by decide) (by decide) (by first | decide | omega) (by first | decide | omega), hB 9 _ (by decide) (by decide) (by first | decide | omega) (by first | decide | omega), hB 10 _ (by decide) (by decide) (by first | decide | omega) (by first | decide | omega), hM 9 (by decide) (by decide), hM 10 (by decide) (by decide), hM 8 (by decide) (by decide), hM 7 (by decide) (by decide)]
  exact h k k0 k1
theorem ev_SIR {L : Int} {d : Nat} {x j hi pl ph e : Int} {B Bm : zB} (h0 : B 3 0 0 x = 0) (h1 : B 3 0 1 x = Bm 14 0 8 j) (hv : evR B Bm x j) (hx : x < hi) (hp : pl ≤ B 3 0 3 x ∧ B 3 0 3 x + B 3 0 6 x ≤ ph) (he : j < e) : SIR L d x j hi pl ph e B Bm := by
  intro Bx By a b
  have g : ∀ k, k ≤ 7 → k ≠ 5 → Bx 3 0 k x = B 3 0 k x := fun k hk hn => a.1 k x hk (Int.le_refl _) hx (fun z => hn z.1)
  have t : ∀ k, 30 ≤ k → k ≤ 34 → By 14 0 k j = Bm 14 0 k j := fun k hk hl => b.1 k j hk hl (Int.le_refl _) he
  have w : ∀ k, 7 ≤ k → k ≤ 11 → By 14 0 k = Bm 14 0 k := b.2.1
  refine IRd_l ⟨?_, Or.inl ⟨?_, ?_⟩⟩
  · rw [g 1 (by decide) (by decide), w 8 (by decide) (by decide)]; exact h1
  · rw [g 0 (by decide) (by decide)]; exact h0
  · obtain ⟨v1, v2, v3, v4, v5, v6, v7⟩ := hv
    unfold evR wdAt sgAt
    rw [g 2 (by decide) (by decide), g 3 (by decide) (by decide), g 6 (by decide) (by decide), g 7 (by decide) (by decide), t 32 (by decide) (by decide), t 33 (by decide) (by decide), t 34 (by decide) (by decide), w 7 (by decide) (by decide), w 9 (by decide) (by decide), w 11 (by decide) (by decide)]
    refine ⟨v1, v2, v3, v4, v5, v6, ?_⟩
    rcases v7 with q | ⟨q1, q2⟩ | ⟨q1, q2, q3, q4⟩
    · exact Or.inl q
    · exact Or.inr (Or.inl ⟨q1, pitR_c q2 a.2.1 (by first | decide | omega) w⟩)
    · exact Or.inr (Or.inr ⟨q1, q2, pitR_c q3 a.2.1 (by first | decide | omega) w, q4⟩)
/-- from the tail's outcome to the item's -/
theorem EVT_OKI {L : Int} {d : Nat} {K : zK} {Km : Nat} {N j j1 x : Int} {F F1 : zF} {F' : zF} {B' : zB} {Fm' : zF} {Bm' : zB} (hE : EV K Km N B' Bm') (ht : EVT N j1 x j F1 F' B' Fm' Bm') (hj : j < j1) (e14 : F1 3 0 14 = F 3 0 14) (e15 : F 3 0 15 ≤ F1 3 0 15) (e18 : F1 3 0 18 = F 3 0 18) (hx : x < F 3 0 14) (h0 : B' 3 0 0 x = 0) (h1 : B' 3 0 1 x = Bm' 14 0 8 j) (h3 : B' 3 0 3 x = F 3 0 15) (h5 : B' 3 0 5 x = -1) (p0 : 0 ≤ F 3 0 15) (h6 : B' 3 0 3 x + B' 3 0 6 x ≤ F1 3 0 15) (hv : ((wdAt Bm' j 114 ∧ B' 3 0 6 x = 0) ∨ (B' 3 0 6 x = 1 ∧ pitR B' Bm' (B' 3 0 3 x) j 1) ∨ (sgAt Bm' j 60 ∧ (2 ≤ B' 3 0 6 x ∧ B' 3 0 6 x ≤ 6) ∧ pitR B' Bm' (B' 3 0 3 x) (j + 1) (B' 3 0 6 x) ∧ ¬ Bm' 14 0 7 (j + 1 + B' 3 0 6 x) = 2))) : OKI L d N j x F F' B' Fm' Bm' ∨ DEL N F' B' Fm' Bm' := by
  obtain ⟨y1, y2, y3, y4, y5, y6, y7, y8, y9, y10⟩ := ht
  rcases y10 with ⟨j2, a, b⟩ | dd
  · left
    have tk := hE.1.2.2 j2 b.2.1.1.1 b.2.1.1.2
    have pb := b.2.2.2.2.2.2.2
    have pc := tk.2.2.2.2.2.2.2.2.2.1
    refine ⟨j2, (by first | decide | omega), b, by rw [y6]; exact b.2.2.1, (by first | decide | omega), (by first | decide | omega), (by first | decide | omega), h5, ?_⟩
    refine ev_SIR h0 h1 ⟨y1, y2, y3, y4, y5, ⟨(by first | decide | omega), (by first | decide | omega)⟩, hv⟩ (by first | decide | omega) ⟨(by first | decide | omega), (by first | decide | omega)⟩ (by first | decide | omega)
  · exact Or.inr dd
theorem P_evP {o : oT_P} {L : Int} {d : Nat} {K : zK} {Km : Nat} {N j x : Int} {F : zF} {B : zB} {Fm : zF} {Bm : zB} (hx : 0 ≤ x ∧ x < 3000) (hxi : x < F 3 0 14) (hE : EV K Km N B Bm) (hS : PS N j F B Fm Bm) (hF : fresh B Bm x j 0) (h2 : Bm 14 0 7 j = 2) (hdp : 1 ≤ F 3 0 18) : zP (f_Parser_takeEvent K 0 x F B) (zbind (f_M_length Km j (zup3 Fm 14 0 16 (j + 1)) Bm) (fun _ F2 B2 => zbind (f_M_marks Km j F2 B2) (fun _ F3 B3 => f_M_item_202 o Km j F3 B3))) (fun r F' B' _ Fm' Bm' => IPO L d N j x F B Fm Bm r F' B' Fm' Bm') := by
  have e11 := hS.1
  have k3 := hE.2.2.2.1
  have k10 := hE.2.2.2.2.1
  have ek := hS.2.1.2.1
  have jj := hS.2.1.1
  have nn := hE.1.2.1
  obtain ⟨f0, f1, f2, f3, f4, f5, f6, f7⟩ := hF
  have hX0 : fX [3] x (F 3 0 15) B (zup4 B 3 0 3 x (F 3 0 15)) := fX_u fX_r (Or.inl ⟨by decide, rfl⟩)
  have hB0 := fX_B (lo := x) hX0 (by decide) (Int.le_refl _)
  have hE0 := EV_f hE hB0 (fH_r (fr := 0))
  have hS0 := PS_f hS hB0 (fH_r (fr := 0))
  obtain ⟨pp, hS1, hX1, h61, hR⟩ := PS_pit (x := x) hE0 hS0 h2
  have hB1 := fX_B (lo := x) hX1 (by decide) (Int.le_refl _)
  have hE1 := EV_f hE0 hB1 (fH_r (fr := 0))
  unfold f_Parser_takeEvent f_Parser_takeEvent_26
  rw [if_pos ⟨(by first | decide | omega), k3⟩, if_pos hx, e11, if_pos ⟨(by first | decide | omega), k10⟩, if_pos (by first | decide | omega), if_neg (by first | decide | omega), if_pos (by decide), if_pos rfl, if_pos ⟨(by first | decide | omega), k3⟩, if_pos ⟨(by first | decide | omega), k10⟩, if_pos (by first | decide | omega), if_pos (by first | decide | omega), C_takePitch (PS_CX hE0 hS0) pp hx]
  simp only [zb_s]
  refine zP_m (P_tail0 (o := o) (fr := j) hx (by first | decide | omega) hE1 hS1 ?_ (by rw [advF_o (by decide)]; simp [zup3_v]; exact hdp)) (fun r F' B' r' Fm' Bm' hh => ?_)
  · rw [fX_3 hX1 (by decide) (by decide), fX_3 hX0 (by decide) (by decide)]; exact f7
  · obtain ⟨g1, g2, g3, g4, g5⟩ := hh
    have e15 : (advF (zup3 F 3 0 15 (F 3 0 15 + 1)) (zup4 B 3 0 3 x (F 3 0 15))) 3 0 15 = F 3 0 15 + 1 := by rw [advF_o (by decide)]; simp [zup3_v]
    have e14 : (advF (zup3 F 3 0 15 (F 3 0 15 + 1)) (zup4 B 3 0 3 x (F 3 0 15))) 3 0 14 = F 3 0 14 := by rw [advF_o (by decide)]; simp [zup3_v]
    have e18 : (advF (zup3 F 3 0 15 (F 3 0 15 + 1)) (zup4 B 3 0 3 x (F 3 0 15))) 3 0 18 = F 3 0 18 := by rw [advF_o (by decide)]; simp [zup3_v]
    rw [e15] at g3
    have hXX : fX [2, 3, 6, 7] x (F 3 0 15) B B' := fX_t (fX_m hX0 (by decide) (Int.le_refl _)) (fX_t (fX_m hX1 (by decide) (Int.le_refl _)) (fX_m g3 (by decide) (by first | decide | omega)))
    have w : ∀ k, 7 ≤ k → k ≤ 11 → Bm' 14 0 k = Bm 14 0 k := fun k _ hk => fH_k g4 k (by first | decide | omega)
    refine ⟨fF_t (fF_a (fF_u fF_r (by decide))) g1, fG_t (fG_u fG_r (by decide) (by decide)) g2, fX_B hXX (by decide) (Int.le_refl _), g4, ?_⟩
    rcases g5 with ⟨r1, ev⟩ | er
    · have e3 : B' 3 0 3 x = F 3 0 15 := by rw [fX_3 g3 (by decide) (by decide), fX_3 hX1 (by decide) (by decide)]; simp [zup4_v]
      have e6 : B' 3 0 6 x = 1 := by rw [fX_3 g3 (by decide) (by decide), h61, fX_3 hX0 (by decide) (by decide), f6]; rfl
      refine Or.inl ⟨r1, EVT_OKI (EV_f hE1 (fX_B (lo := x) g3 (by decide) (Int.le_refl _)) g4) ev (by first | decide | omega) e14 (by first | decide | omega) e18 hxi ?_ ?_ e3 ?_ (by first | decide | omega) (by first | decide | omega) ?_⟩
      · rw [fX_3 hXX (by decide) (by decide)]; exact f0
      · rw [fX_3 hXX (by decide) (by decide), w 8 (by decide) (by decide)]; exact f1
      · rw [fX_3 hXX (by decide) (by decide)]; exact f5
      · refine Or.inr (Or.inl ⟨e6, ?_⟩)
        rw [e3]
        refine pitR_c (pl := F 3 0 15) (ph := F 3 0 15 + 1) hR (fun k y a b c dd => ?_) (by first | decide | omega) w
        exact g3 3 0 k y (fun z => by have := z.2.2.1; simp at this; omega) (fun z => by have := z.2.2.2.2; omega)
    · exact Or.inr er
theorem P_evC {o : oT_P} {L : Int} {d : Nat} {K : zK} {Km : Nat} {N j x : Int} {F : zF} {B : zB} {Fm : zF} {Bm : zB} (hx : 0 ≤ x ∧ x < 3000) (hxi : x < F 3 0 14) (hE : EV K Km N B Bm) (hS : PS N j F B Fm Bm) (hF : fresh B Bm x j 0) (h2 : sgAt Bm j 60) (hdp : 1 ≤ F 3 0 18) : zP (f_Parser_takeEvent K 0 x F B) (zbind (f_M_chord Km Fm Bm) (fun _ F1 B1 => zbind (f_M_length Km j F1 B1) (fun _ F2 B2 => zbind (f_M_marks Km j F2 B2) (fun _ F3 B3 => f_M_item_202 o Km j F3 B3)))) (fun r F' B' _ Fm' Bm' => IPO L d N j x F B Fm Bm r F' B' Fm' Bm') := by
  have e11 := hS.1
  have k3 := hE.2.2.2.1
  have k10 := hE.2.2.2.2.1
  have k1 := hE.2.2.2.2.2.1
  have km := hE.2.2.2.2.2.2
  have ek := hS.2.1.2.1
  have jj := hS.2.1.1
  have nn := hE.1.2.1
  have h5 := h2.1
  obtain ⟨f0, f1, f2, f3, f4, f5, f6, f7⟩ := hF
  have hX0 : fX [3] x (F 3 0 15) B (zup4 B 3 0 3 x (F 3 0 15)) := fX_u fX_r (Or.inl ⟨by decide, rfl⟩)
  have hB0 := fX_B (lo := x) hX0 (by decide) (Int.le_refl _)
  have hE0 := EV_f hE hB0 (fH_r (fr := 0))
  have hS0 := PS_f hS hB0 (fH_r (fr := 0))
  have hS1 := PS_step hE0 hS0 (by first | decide | omega)
  have pb := hS0.2.2.2.2.2.2.2
  unfold f_Parser_takeEvent f_Parser_takeEvent_26 f_Parser_takeChord f_M_chord
  rw [if_pos ⟨(by first | decide | omega), k3⟩, if_pos hx, e11, if_pos ⟨(by first | decide | omega), k10⟩, if_pos (by first | decide | omega), if_neg (by first | decide | omega), if_pos (by decide), if_pos rfl, if_pos ⟨(by first | decide | omega), k3⟩, if_pos ⟨(by first | decide | omega), k10⟩, if_pos (by first | decide | omega), if_neg (by first | decide | omega), if_pos ⟨(by first | decide | omega), k3⟩, if_pos ⟨(by first | decide | omega), k10⟩, C_adv (PS_CX hE0 hS0), hS.2.2.1]
  simp only [zb_s]
  refine zP_c (P_chord (K := K) (Km := Km) (N := N) hx (q := 6) (l := 0) (j := j + 1) (by first | decide | omega) (by first | decide | omega) (by first | decide | omega) (by first | decide | omega) hE0 hS1 ?_) (fun r F1 B1 r' Fm1 Bm1 hh => ?_)
  · rw [fX_3 hX0 (by decide) (by decide)]; exact f6
  · obtain ⟨c1, c2, c3, c4, c5⟩ := hh
    subst c1
    have a15 : (advF F (zup4 B 3 0 3 x (F 3 0 15))) 3 0 15 = F 3 0 15 := by rw [advF_o (by decide)]
    have a14 : (advF F (zup4 B 3 0 3 x (F 3 0 15))) 3 0 14 = F 3 0 14 := by rw [advF_o (by decide)]
    have a18 : (advF F (zup4 B 3 0 3 x (F 3 0 15))) 3 0 18 = F 3 0 18 := by rw [advF_o (by decide)]
    rw [a15] at c4 c5
    rw [a14, a18] at c5
    have hB1 := fX_B (lo := x) c4 (by decide) (Int.le_refl _)
    have hX01 : fX [2, 3, 6, 7] x (F 3 0 15) B B1 := fX_t (fX_m hX0 (by decide) (Int.le_refl _)) (fX_m c4 (by decide) (Int.le_refl _))
    rcases c5 with ⟨rfl, n, n1, n2, n3, n4, n5, n6, n7, n8, n9, n10, n11⟩ | ⟨rfl, er⟩
    · rw [if_pos (show r32 1 by decide), if_neg (show ¬ (1 : Int) = 0 by decide)]
      have hE1 := EV_f hE0 hB1 (fH_r (fr := 0))
      refine zP_m (P_tail0 (o := o) (fr := j) hx (by first | decide | omega) hE1 n4 ?_ (by first | decide | omega)) (fun r F' B' r' Fm' Bm' hh => ?_)
      · rw [fX_3 c4 (by decide) (by decide), fX_3 hX0 (by decide) (by decide)]; exact f7
      · obtain ⟨g1, g2, g3, g4, g5⟩ := hh
        rw [n6] at g3
        have hXX : fX [2, 3, 6, 7] x (F 3 0 15) B B' := fX_t hX01 (fX_m g3 (by decide) (by first | decide | omega))
        have w : ∀ k, 7 ≤ k → k ≤ 11 → Bm' 14 0 k = Bm1 14 0 k := fun k _ hk => fH_k g4 k (by first | decide | omega)
        refine ⟨fF_t (fF_t (fF_a fF_r) c2) g1, fG_t (fG_t (fG_u fG_r (by decide) (by decide)) c3) g2, fX_B hXX (by decide) (Int.le_refl _), g4, ?_⟩
        rcases g5 with ⟨r1, ev⟩ | er
        · have e3 : B' 3 0 3 x = F 3 0 15 := by rw [fX_3 g3 (by decide) (by decide), fX_3 c4 (by decide) (by decide)]; simp [zup4_v]
          have e6 : B' 3 0 6 x = n := by rw [fX_3 g3 (by decide) (by decide), n5]; omega
          refine Or.inl ⟨r1, EVT_OKI (EV_f hE1 (fX_B (lo := x) g3 (by decide) (Int.le_refl _)) g4) ev (by first | decide | omega) (by first | decide | omega) (by first | decide | omega) (by first | decide | omega) hxi ?_ ?_ e3 ?_ (by first | decide | omega) (by first | decide | omega) ?_⟩
          · rw [fX_3 hXX (by decide) (by decide)]; exact f0
          · rw [fX_3 hXX (by decide) (by decide), w 8 (by decide) (by decide)]; exact f1
          · rw [fX_3 hXX (by decide) (by decide)]; exact f5
          · refine Or.inr (Or.inr ⟨?_, (by first | decide | omega), ?_, ?_⟩)
            · unfold sgAt at *
              rw [w 7 (by decide) (by decide), w 9 (by decide) (by decide)]; exact h2
            · rw [e3, e6]
              refine pitR_c (pl := F 3 0 15) (ph := F 3 0 15 + n) n7 (fun k y a b c dd => ?_) (by first | decide | omega) w
              exact g3 3 0 k y (fun z => by have := z.2.2.1; simp at this; omega) (fun z => by have := z.2.2.2.2; omega)
            · rw [e6, w 7 (by decide) (by decide)]; exact n8
        · exact Or.inr er
    · rw [if_pos (show r32 0 by decide), if_pos rfl, L_lengthB (by first | decide | omega) er.2]
      simp only [zb_s]
      rw [L_marksB km (by first | decide | omega) er.2]
      simp only [zb_s]
      rw [L_202 (by first | decide | omega)]
      exact zP_s ⟨fF_t (fF_a fF_r) c2, fG_t (fG_u fG_r (by decide) (by decide)) c3, fX_B hX01 (by decide) (Int.le_refl _), fH_u (fH_u (fH_u (fH_u fH_r (by decide) (by decide) (Int.le_refl _)) (by decide) (by decide) (Int.le_refl _)) (by decide) (by decide) (Int.le_refl _)) (by decide) (by decide) (Int.le_refl _), Or.inr ⟨rfl, er⟩⟩
theorem P_evR {o : oT_P} {L : Int} {d : Nat} {K : zK} {Km : Nat} {N j x : Int} {F : zF} {B : zB} {Fm : zF} {Bm : zB} (hx : 0 ≤ x ∧ x < 3000) (hxi : x < F 3 0 14) (hE : EV K Km N B Bm) (hS : PS N j F B Fm Bm) (hF : fresh B Bm x j 0) (h2 : wdAt Bm j 114) (hdp : 1 ≤ F 3 0 18) : zP (f_Parser_takeEvent K 0 x F B) (zbind (f_M_length Km j (zup3 Fm 14 0 16 (j + 1)) (zup4 Bm 14 0 34 j 0)) (fun _ F2 B2 => f_M_item_202 o Km j F2 B2)) (fun r F' B' _ Fm' Bm' => IPO L d N j x F B Fm Bm r F' B' Fm' Bm') := by
  have e11 := hS.1
  have k3 := hE.2.2.2.1
  have k10 := hE.2.2.2.2.1
  have ek := hS.2.1.2.1
  have jj := hS.2.1.1
  have nn := hE.1.2.1
  have h4 := h2.1
  obtain ⟨f0, f1, f2, f3, f4, f5, f6, f7⟩ := hF
  have hX0 : fX [3] x (F 3 0 15) B (zup4 B 3 0 3 x (F 3 0 15)) := fX_u fX_r (Or.inl ⟨by decide, rfl⟩)
  have hB0 := fX_B (lo := x) hX0 (by decide) (Int.le_refl _)
  have hE0 := EV_f hE hB0 (fH_r (fr := 0))
  have hS0 := PS_f hS hB0 (fH_r (fr := 0))
  have hS1 := PS_step hE0 hS0 (by first | decide | omega)
  have hH1 : fH j Bm (zup4 Bm 14 0 34 j 0) := fH_u fH_r (by decide) (by decide) (Int.le_refl _)
  have pb := hS0.2.2.2.2.2.2.2
  unfold f_Parser_takeEvent f_Parser_takeEvent_26
  rw [if_pos ⟨(by first | decide | omega), k3⟩, if_pos hx, e11, if_pos ⟨(by first | decide | omega), k10⟩, if_pos (by first | decide | omega), if_pos (by first | decide | omega), if_pos (by decide), if_neg (by decide), if_pos ⟨(by first | decide | omega), k3⟩, if_pos ⟨(by first | decide | omega), k10⟩, C_adv (PS_CX hE0 hS0)]
  simp only [zb_s]
  have hE1 := EV_f hE0 (fB_r (lo := 0) (pl := 0)) hH1
  refine zP_m (P_tail1 (o := o) (fr := j) hx (by first | decide | omega) hE1 (PS_f hS1 (fB_r (lo := 0) (pl := 0)) hH1) ?_ (by simp [zup4_v]) (by rw [advF_o (by decide)]; exact hdp)) (fun r F' B' r' Fm' Bm' hh => ?_)
  · rw [fX_3 hX0 (by decide) (by decide)]; exact f7
  · obtain ⟨g1, g2, g3, g4, g5⟩ := hh
    have a15 : (advF F (zup4 B 3 0 3 x (F 3 0 15))) 3 0 15 = F 3 0 15 := by rw [advF_o (by decide)]
    have a14 : (advF F (zup4 B 3 0 3 x (F 3 0 15))) 3 0 14 = F 3 0 14 := by rw [advF_o (by decide)]
    have a18 : (advF F (zup4 B 3 0 3 x (F 3 0 15))) 3 0 18 = F 3 0 18 := by rw [advF_o (by decide)]
    rw [a15] at g3
    have hXX : fX [2, 3, 7] x (F 3 0 15) B B' := fX_t (fX_m hX0 (by decide) (Int.le_refl _)) (fX_m g3 (by decide) (Int.le_refl _))
    have g4' := fH_t hH1 g4
    have w : ∀ k, 7 ≤ k → k ≤ 11 → Bm' 14 0 k = Bm 14 0 k := fun k _ hk => fH_k g4' k (by first | decide | omega)
    refine ⟨fF_t (fF_a fF_r) g1, fG_t (fG_u fG_r (by decide) (by decide)) g2, fX_B hXX (by decide) (Int.le_refl _), g4', ?_⟩
    rcases g5 with ⟨r1, ev⟩ | er
    · have e3 : B' 3 0 3 x = F 3 0 15 := by rw [fX_3 g3 (by decide) (by decide)]; simp [zup4_v]
      have e6 : B' 3 0 6 x = 0 := by rw [fX_3 hXX (by decide) (by decide)]; exact f6
      refine Or.inl ⟨r1, EVT_OKI (EV_f hE1 (fX_B (lo := x) g3 (by decide) (Int.le_refl _)) g4) ev (by first | decide | omega) a14 (by first | decide | omega) a18 hxi ?_ ?_ e3 ?_ (by first | decide | omega) (by first | decide | omega) (Or.inl ⟨?_, e6⟩)⟩
      · rw [fX_3 hXX (by decide) (by decide)]; exact f0
      · rw [fX_3 hXX (by decide) (by decide), w 8 (by decide) (by decide)]; exact f1
      · rw [fX_3 hXX (by decide) (by decide)]; exact f5
      · unfold wdAt at *
        rw [w 7 (by decide) (by decide), w 11 (by decide) (by decide)]; exact h2
    · exact Or.inr er
end
