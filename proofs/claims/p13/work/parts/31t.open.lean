section
section
/-! ===== the chunks of a file, both sides ===== -/
theorem C_skp2 {K : zK} {o a n L : Int} {F : zF} {B : zB} (ho : 0 ≤ o ∧ o < K.2 8) (n0 : 0 ≤ n ∧ n ≤ 17179869184) (a1 : F 8 o 5 = a) (a0 : 0 ≤ a ∧ a ≤ 3000) (g7 : F 8 o 7 = 0) (l1 : F 8 o 6 = L) (l0 : 0 ≤ L ∧ L ≤ 3000) : f_SoundFile_skip K o n F B = some (0, if a + n ≤ L then zup3 F 8 o 5 (a + n) else zup3 F 8 o 7 (2 + 16 * L), B) := by
  unfold f_SoundFile_skip f_SoundFile_skip_46
  rw [if_pos ho, a1, l1, if_pos (show r32 a by unfold r32; omega), if_pos (show r32 L by unfold r32; omega), if_pos (show r64 (a + n) by unfold r64; omega), if_pos (show r64 L by unfold r64; omega), g7, if_pos (show r32 0 by decide), if_pos (show (0 : Int) = 0 from rfl)]
  by_cases z : a + n ≤ L
  · rw [if_pos (zcmp_m.mpr z), if_pos z]
  · rw [if_neg (fun x => z (zcmp_m.mp x)), if_neg z, C_ref ho g7, zb_s]
section
variable {K : zK} {Km : Nat} {o : Int} {q : zF × zB × zF × zB}
/-- behind a fault nothing more is read -/
theorem P_fx {m1 m2 : Nat} {n l1 tr to : Int} {F : zF} {B : zB} {Fm : zF} {Bm : zB} (h0 : 2 ≤ K.2 0) (ho : 0 ≤ o ∧ o < K.2 8) (tq : TQ q) (hn : 0 ≤ n ∧ n < 2000) (ht : -8589934592 ≤ to ∧ to ≤ 8589934592) (hl : -8589934592 ≤ l1 ∧ l1 ≤ 8589934592) (w : OW o q F B Fm Bm) (x : RX o F Fm) (x6 : F 8 o 6 ≤ F 0 0 1) : zP (f_SoundFile_load_143 (f_SoundFile_load_43 K (m1 + 1)) K to n o 0 F B) (f_M_open_176 (f_M_open_81 Km (m2 + 1)) Km l1 tr Fm Bm) (QL o q) := by
  have n3 := (RO_w tq w).2.1
  have x7 := x7_n x
  have xx := x
  obtain ⟨y7, y17, y18, y5, y6, y6'⟩ := xx
  have xw : RX o (zup3 F 8 o 6 (F 0 0 1)) Fm := by
    unfold RX
    simp only [zup3_v]
    simp
    omega
  have ww : OW o q (zup3 F 8 o 6 (F 0 0 1)) B Fm Bm := OW_x w (by rw [zup3_v, if_neg (by first | decide | omega)]) (fun c y k n => by rw [zup3_v, if_neg (by first | decide | omega)]) (fun _ _ _ _ _ => rfl) (fun _ _ _ _ => rfl) (fun _ _ _ _ _ => rfl)
  have e1 : f_SoundFile_load_143 (f_SoundFile_load_43 K (m1 + 1)) K to n o 0 F B = f_SoundFile_load_169 K o (zup3 F 8 o 6 (F 0 0 1)) B := by
    unfold f_SoundFile_load_143
    have x7' := x7_n xw
    rw [if_pos (by first | decide | omega), if_pos ho, if_pos (show r32 (F 8 o 5) by unfold r32; omega), C_skipX ho (by first | decide | omega) xw, zb_s, f_SoundFile_load_43, if_pos (show r32 (n + 1) by unfold r32; omega), if_neg (by first | decide | omega), if_pos ho, if_pos x7'.1, if_neg x7'.2]
  have e2 : f_M_open_176 (f_M_open_81 Km (m2 + 1)) Km l1 tr Fm Bm = f_M_open_198 Km Fm Bm := by
    have e3 : f_M_open_81 Km (m2 + 1) tr l1 Fm Bm = f_M_open_198 Km Fm Bm := by
      rw [f_M_open_81, L_goodX x, zb_s, if_pos (show r32 0 by decide), if_pos (show (0 : Int) = 0 from rfl)]
    unfold f_M_open_176 f_M_open_195
    rw [if_pos (show r32 (Fm 14 0 3) by unfold r32; omega), if_pos (show r64 l1 by unfold r64; omega), if_pos (show r64 (Fm 14 0 3) by unfold r64; omega), e3]
    have ef : f_M_failByte Km 2 (Fm 14 0 3) Fm Bm = some (0, Fm, Bm) := by
      unfold f_M_failByte
      rw [if_pos (show r32 (Fm 14 0 17) by unfold r32; omega), if_neg (by first | decide | omega)]
    rw [ef, zb_s, e3]
    by_cases z : zcmp l1 (Fm 14 0 3) ≤ 0
    · rw [if_pos z]
    · rw [if_neg z]
  rw [e1, e2]
  exact P_okX ho ww xw
/-- between chunks, all well -/
def LK (o : Int) (q : zF × zB × zF × zB) (tr l : Int) (F : zF) (B : zB) (Fm : zF) (Bm : zB) : Prop := OW o q F B Fm Bm ∧ DB o tr F B Fm Bm ∧ (F 8 o 7 = 0 ∧ Fm 14 0 17 = 0 ∧ F 8 o 5 = l ∧ 0 ≤ l ∧ l ≤ F 0 0 1) ∧ (F 8 o 8 = tr ∧ 0 ≤ tr ∧ tr ≤ Bm 14 0 74 0)
/-- the chunk at hand has been looked at -/
theorem P_nx {m1 m2 : Nat} {n l tr a b : Int} {F : zF} {B : zB} {Fm : zF} {Bm : zB} (h0 : 2 ≤ K.2 0) (ho : 0 ≤ o ∧ o < K.2 8) (tq : TQ q) (hn : 0 ≤ n ∧ n < 2000) (w : OW o q F B Fm Bm) (db : DB o tr F B Fm Bm) (g : F 8 o 7 = 0 ∧ Fm 14 0 17 = 0 ∧ F 8 o 5 = a ∧ 0 ≤ a ∧ a ≤ 3000) (g8 : F 8 o 8 = tr ∧ 0 ≤ tr ∧ tr ≤ Bm 14 0 74 0) (ha : a ≤ l ∧ l ≤ 8589934592) (h89 : Fm 14 0 89 = b ∧ 0 ≤ b ∧ b ≤ 3000) (ih : ∀ F B Fm Bm, LK o q tr l F B Fm Bm → zP (f_SoundFile_load_43 K (m1 + 1) (n + 1) o 0 F B) (f_M_open_81 Km (m2 + 1) tr l Fm Bm) (QL o q)) : zP (f_SoundFile_load_143 (f_SoundFile_load_43 K (m1 + 1)) K l n o 0 F B) (f_M_open_176 (f_M_open_81 Km (m2 + 1)) Km l tr Fm Bm) (QL o q) := by
  have n3 := (RO_w tq w).2.1
  obtain ⟨g7, g17, g5, a0⟩ := g
  have f6 : ∀ k, k ≠ 6 → (zup3 F 8 o 6 (F 0 0 1)) 8 o k = F 8 o k := fun k n => by rw [zup3_v, if_neg (by first | decide | omega)]
  have v6 : (zup3 F 8 o 6 (F 0 0 1)) 8 o 6 = F 0 0 1 := by rw [zup3_v, if_pos (by first | decide | omega)]
  have f01 : (zup3 F 8 o 6 (F 0 0 1)) 0 0 1 = F 0 0 1 := by rw [zup3_v, if_neg (by first | decide | omega)]
  unfold f_SoundFile_load_143 f_M_open_176 f_M_open_195
  rw [if_pos (by first | decide | omega), if_pos ho, g5, if_pos (show r32 a by unfold r32; omega), C_skp2 (a := a) (L := F 0 0 1) ho (by first | decide | omega) (by rw [f6 5 (by decide)]; exact g5) a0 (by rw [f6 7 (by decide)]; exact g7) v6 (by first | decide | omega), zb_s, show a + (l - a) = l by omega, if_pos (show r32 (Fm 14 0 3) by unfold r32; omega), if_pos (show r64 l by unfold r64; omega), if_pos (show r64 (Fm 14 0 3) by unfold r64; omega)]
  by_cases z : l ≤ F 0 0 1
  · rw [if_pos z, if_pos (zcmp_m.mpr (by first | decide | omega))]
    have fa : ∀ k, k ≠ 6 → k ≠ 5 → (zup3 (zup3 F 8 o 6 (F 0 0 1)) 8 o 5 l) 8 o k = F 8 o k := fun k n n' => by rw [zup3_v, if_neg (by first | decide | omega), f6 k n]
    refine ih _ _ _ _ ⟨?_, ⟨?_, db.2.1, ?_⟩, ⟨by rw [fa 7 (by decide) (by decide)]; exact g7, g17, by rw [zup3_v, if_pos (by first | decide | omega)], (by first | decide | omega), by rw [zup3_v, if_neg (by first | decide | omega), f01]; exact z⟩, by rw [fa 8 (by decide) (by decide)]; exact g8⟩
    · exact OW_x w (by rw [fa 4 (by decide) (by decide)]) (fun c y k n => by rw [zup3_v, if_neg (by first | decide | omega), zup3_v, if_neg (by first | decide | omega)]) (fun _ _ _ _ _ => rfl) (fun _ _ _ _ => rfl) (fun _ _ _ _ _ => rfl)
    · rw [fa 2 (by decide) (by decide)]
      exact SND_f db.1 (by first | decide | omega) (fa 2 (by decide) (by decide)) rfl (fun _ _ _ _ => rfl) (fun _ _ _ _ => rfl)
    · exact HD_x db.2.2 (fun k k0 k1 => fa k (by first | decide | omega) (by first | decide | omega)) (fun _ => rfl) (fun _ _ _ => rfl) (fun _ => rfl)
  · rw [if_neg z, if_neg (fun x => by have := zcmp_m.mp x; omega), L_fb g17, zb_s]
    have fa : ∀ k, k ≠ 6 → k ≠ 7 → (zup3 (zup3 F 8 o 6 (F 0 0 1)) 8 o 7 (2 + 16 * F 0 0 1)) 8 o k = F 8 o k := fun k n n' => by rw [zup3_v, if_neg (by first | decide | omega), f6 k n]
    have x : RX o (zup3 (zup3 F 8 o 6 (F 0 0 1)) 8 o 7 (2 + 16 * F 0 0 1)) (zup3 (zup3 Fm 14 0 17 2) 14 0 18 (Fm 14 0 3)) := by
      unfold RX
      simp only [zup3_v]
      simp
      omega
    have ww : OW o q (zup3 (zup3 F 8 o 6 (F 0 0 1)) 8 o 7 (2 + 16 * F 0 0 1)) B (zup3 (zup3 Fm 14 0 17 2) 14 0 18 (Fm 14 0 3)) Bm := OW_x w (by rw [fa 4 (by decide) (by decide)]) (fun c y k n => by rw [zup3_v, if_neg (by first | decide | omega), zup3_v, if_neg (by first | decide | omega)]) (fun _ _ _ _ _ => rfl) (fun c y k n => by rw [zup3_v, if_neg (by first | decide | omega), zup3_v, if_neg (by first | decide | omega)]) (fun _ _ _ _ _ => rfl)
    have x7 := x7_n x
    rw [f_SoundFile_load_43, if_pos (show r32 (n + 1) by unfold r32; omega), if_neg (by first | decide | omega), if_pos ho, if_pos x7.1, if_neg x7.2, f_M_open_81, L_goodX x, zb_s, if_pos (show r32 0 by decide), if_pos (show (0 : Int) = 0 from rfl)]
    exact P_okX ho ww x
theorem P_w4 {a : Int} {F : zF} {B : zB} {Fm : zF} {Bm : zB} (h0 : 2 ≤ K.2 0) (ho : 0 ≤ o ∧ o < K.2 8) (hK : 10 ≤ K.1) (hKm : 10 ≤ Km) (hO : RO o F B Fm Bm) (hQ : RQo o a F Fm) : zP (f_SoundFile_takeWide K o 4 F B) (f_M_whole Km 4 Fm Bm) (fun r F' B' r' Fm' Bm' => B' = B ∧ Bm' = Bm ∧ tkF o F F' ∧ tkG Fm Fm' ∧ (0 ≤ r ∧ r ≤ 4294967295) ∧ (0 ≤ r' ∧ r' ≤ 4294967295) ∧ RQo o (a + 4) F' Fm' ∧ (Fm' 14 0 17 = 0 → Fm 14 0 17 = 0 ∧ r' = r)) := by
  have b4 : bwn (0 + 4) = 4294967295 := by decide
  obtain ⟨r, F', B', r', Fm', Bm', e1, e2, w1, w2, w3, w4, w5, w6, w7, w8⟩ := P_wide (Km := Km) (o := o) (l := 4) h0 ho 4 0 K.1 Km a 0 0 F B Fm Bm (by first | decide | omega) (by first | decide | omega) (by first | decide | omega) (by first | decide | omega) (by decide) (by decide) (fun _ => rfl) hO hQ
  rw [b4] at w5 w6
  exact ⟨r, F', B', r', Fm', Bm', e1, e2, w1, w2, w3, w4, w5, w6, w7, w8⟩
theorem P_ll (h0 : 2 ≤ K.2 0) (ho : 0 ≤ o ∧ o < K.2 8) (hK : 4000 ≤ K.1) (hKm : 4000 ≤ Km) (tq : TQ q) : ∀ (d m1 m2 : Nat) (n tr l : Int) (F : zF) (B : zB) (Fm : zF) (Bm : zB), 3008 ≤ l + d → d < m1 → d < m2 → 0 ≤ n → 8 * n ≤ l → LK o q tr l F B Fm Bm → zP (f_SoundFile_load_43 K m1 n o 0 F B) (f_M_open_81 Km m2 tr l Fm Bm) (QL o q) := by
  intro d
  induction d with
  | zero =>
    intro m1 m2 n tr l F B Fm Bm hd l1 l2 n0 nl h
    have n3 := (RO_w tq h.1).2.1
    have := h.2.2.1
    omega
  | succ d ih =>
    intro m1 m2 n tr l F B Fm Bm hd l1 l2 n0 nl h
    obtain ⟨w, db, ⟨g7, g17, g5, l0, ls⟩, ⟨g8, t0, t1⟩⟩ := h
    have n3 := (RO_w tq w).2.1
    have hh := db.2.2
    unfold HD at hh
    have b0 : B 8 o 0 0 = Bm 14 0 74 0 ∧ 1 ≤ Bm 14 0 74 0 ∧ Bm 14 0 74 0 ≤ 8 := by omega
    obtain ⟨p, rfl⟩ : ∃ p, m1 = p + 1 := ⟨m1 - 1, (by first | decide | omega)⟩
    obtain ⟨r, rfl⟩ : ∃ p, m2 = p + 1 := ⟨m2 - 1, (by first | decide | omega)⟩
    rw [f_SoundFile_load_43, if_pos (show r32 n by unfold r32; omega), if_neg (show ¬ 3000 ≤ n by omega), if_pos ho, g7, if_pos (show r32 0 by decide), if_pos (show (0 : Int) = 0 from rfl), g8, if_pos (show r32 tr by unfold r32; omega), b0.1, if_pos (show r32 (Bm 14 0 74 0) by unfold r32; omega), f_M_open_81, L_good g17, zb_s, if_pos (show r32 1 by decide), if_neg (show ¬ (1 : Int) = 0 by decide), if_pos (show r32 tr by unfold r32; omega), if_pos (show r32 (Bm 14 0 74 0) by unfold r32; omega)]
    by_cases z : Bm 14 0 74 0 ≤ tr
    · rw [if_pos z, if_pos z]
      exact P_okE ho (by first | decide | omega) w db g7 g17 (by first | decide | omega)
    · rw [if_neg z, if_neg z, if_pos (show (0 : Int) ≤ 0 ∧ (0 : Int) < K.2 0 by omega), if_pos (show r32 (Fm 14 0 3) by unfold r32; omega), if_pos (show r64 l by unfold r64; omega), if_pos (show r64 (Fm 14 0 3) by unfold r64; omega)]
      have es : (if 0 ≤ zcmp l (Fm 14 0 3) then f_M_open_118 (f_M_open_81 Km r) Km tr (Fm 14 0 3) Fm Bm else f_M_open_118 (f_M_open_81 Km r) Km tr l Fm Bm) = f_M_open_118 (f_M_open_81 Km r) Km tr l Fm Bm := by
        by_cases v : Fm 14 0 3 ≤ l
        · rw [if_pos (zcmp_o.mpr v), show Fm 14 0 3 = l by omega]
        · rw [if_neg (fun x => v (zcmp_o.mp x))]
      rw [es]
      unfold f_M_open_118 f_M_isTrack
      rw [if_pos (show r32 l by unfold r32; omega), zb_a2]
      have f6 : ∀ k, k ≠ 6 → (zup3 F 8 o 6 (F 0 0 1)) 8 o k = F 8 o k := fun k n => by rw [zup3_v, if_neg (by first | decide | omega)]
      have v6 : (zup3 F 8 o 6 (F 0 0 1)) 8 o 6 = F 0 0 1 := by rw [zup3_v, if_pos (by first | decide | omega)]
      have w1 : OW o q (zup3 F 8 o 6 (F 0 0 1)) B (zup3 (zup3 Fm 14 0 89 l) 14 0 90 3000) Bm := OW_x w (f6 4 (by decide)) (fun c y k n => by rw [zup3_v, if_neg (by first | decide | omega)]) (fun _ _ _ _ _ => rfl) (fun c y k n => by rw [zup3_v, if_neg (by first | decide | omega), zup3_v, if_neg (by first | decide | omega)]) (fun _ _ _ _ _ => rfl)
      have g1 : RG o l (zup3 F 8 o 6 (F 0 0 1)) (zup3 (zup3 Fm 14 0 89 l) 14 0 90 3000) := by
        unfold RG
        simp only [zup3_v]
        simp
        omega
      refine P_bind (P_w4 (Km := Km) h0 ho (by first | decide | omega) (by first | decide | omega) (RO_w tq w1) (Or.inl ⟨g1, by rw [v6]; omega⟩)) (fun s F2 B2 s' G2 D2 y => ?_)
      obtain ⟨rfl, rfl, y3, y4, y5, y6, y7, y8⟩ := y
      have w2 := OW_t w1 y3 y4
      rw [L_code (by first | decide | omega), zb_s, if_pos (show r64 s' by unfold r64; omega), if_pos (show r64 1297379947 by decide)]
      unfold f_M_isTrack_22
      rw [if_pos (show (1 : Int) = 0 ∨ (1 : Int) = 1 from Or.inr rfl), if_pos (show (0 : Int) = 0 ∨ (0 : Int) = 1 from Or.inl rfl)]
      have eb : (zbind (if zcmp s' 1297379947 = 0 then some (1, G2, D2) else some (0, G2, D2)) (fun r27 F27 B27 => zbind (f_M_whole Km 4 F27 B27) (fun r28 F28 B28 => if r32 (F28 14 0 89) then zbind (f_M_good Km F28 B28) (fun r30 F30 B30 => if r32 r30 then (if r30 = 0 then f_M_open_176 (f_M_open_81 Km r) Km ((F28 14 0 89) + r28) tr F30 B30 else if r32 r27 then (if r27 = 0 then f_M_open_176 (f_M_open_81 Km r) Km ((F28 14 0 89) + r28) tr F30 B30 else zbind (f_M_track0 Km tr (zup3 F30 14 0 90 ((F28 14 0 89) + r28)) B30) (fun r37 F37 B37 => f_M_open_176 (f_M_open_81 Km r) Km ((F28 14 0 89) + r28) (tr + 1) F37 B37)) else none) else none) else none))) = (zbind (f_M_whole Km 4 G2 D2) (fun r28 F28 B28 => if r32 (F28 14 0 89) then zbind (f_M_good Km F28 B28) (fun r30 F30 B30 => if r32 r30 then (if r30 = 0 then f_M_open_176 (f_M_open_81 Km r) Km ((F28 14 0 89) + r28) tr F30 B30 else (if ¬ s' = 1297379947 then f_M_open_176 (f_M_open_81 Km r) Km ((F28 14 0 89) + r28) tr F30 B30 else zbind (f_M_track0 Km tr (zup3 F30 14 0 90 ((F28 14 0 89) + r28)) B30) (fun r37 F37 B37 => f_M_open_176 (f_M_open_81 Km r) Km ((F28 14 0 89) + r28) (tr + 1) F37 B37))) else none) else none)) := by
        by_cases v : s' = 1297379947
        · rw [if_pos (zcmp_0.mpr v), zb_s]
          simp only [if_pos (show r32 1 by decide), if_neg (show ¬ (1 : Int) = 0 by decide), if_neg (show ¬ ¬ s' = 1297379947 from fun h => h v)]
        · rw [if_neg (fun x => v (zcmp_0.mp x)), zb_s]
          simp only [if_pos (show r32 0 by decide), if_pos (show ¬ s' = 1297379947 from v), ↓reduceIte]
      rw [eb]
      refine P_bind (P_w4 (Km := Km) h0 ho (by first | decide | omega) (by first | decide | omega) (RO_w tq w2) y7) (fun u F3 B3 u' G3 D3 y => ?_)
      obtain ⟨rfl, rfl, z3, z4, z5, z6, z7, z8⟩ := y
      have w3 := OW_t w2 z3 z4
      have f3 := tkF_t y3 z3
      have g3 := tkG_t y4 z4
      have e01 : F3 0 0 1 = F 0 0 1 := by rw [f3 0 0 1 (by first | decide | omega), zup3_v, if_neg (by first | decide | omega)]
      obtain ⟨p', rfl⟩ : ∃ x, p = x + 1 := ⟨p - 1, (by first | decide | omega)⟩
      obtain ⟨r', rfl⟩ : ∃ x, r = x + 1 := ⟨r - 1, (by first | decide | omega)⟩
      rcases z7 with ⟨g, g6⟩ | ⟨x, x6⟩
      · obtain ⟨m2', rfl⟩ := z8 g.2.1
        obtain ⟨_, rfl⟩ := y8 m2'
        have ga := g.2.2.1
        have fk : ∀ k, k ≠ 5 → k ≠ 6 → k ≠ 7 → F3 8 o k = F 8 o k := fun k a b c => by rw [f3 8 o k (by first | decide | omega), f6 k b]
        have gk : ∀ k, ¬ (k = 17 ∨ k = 18 ∨ k = 89 ∨ k = 90) → G3 14 0 k = Fm 14 0 k := fun k n => by rw [g3 14 0 k (by first | decide | omega), zup3_v, if_neg (by first | decide | omega), zup3_v, if_neg (by first | decide | omega)]
        have sn3 : SND o (F 8 o 2) tr 0 F3 B3 G3 D3 := SND_f db.1 (by first | decide | omega) (fk 2 (by decide) (by decide) (by decide)) (gk 94 (by decide)) (fun _ _ _ _ => rfl) (fun _ _ _ _ => rfl)
        have hd3 : HD o F3 B3 G3 D3 := HD_x db.2.2 (fun k k0 k1 => fk k (by first | decide | omega) (by first | decide | omega) (by first | decide | omega)) (fun _ => rfl) (fun k k0 k1 => gk k (by first | decide | omega)) (fun _ => rfl)
        have db3 : DB o tr F3 B3 G3 D3 := ⟨by rw [fk 2 (by decide) (by decide) (by decide)]; exact sn3, db.2.1, hd3⟩
        rw [ga.1, ga.2.1, if_pos (show r32 (l + 4 + 4) by unfold r32; omega), g.1, if_pos (show r32 0 by decide), if_pos (show (0 : Int) = 0 from rfl), if_pos (show r64 s' by unfold r64; omega), if_pos (show r32 (l + 4 + 4) by unfold r32; omega), L_good g.2.1, zb_s, if_pos (show r32 1 by decide), if_neg (show ¬ (1 : Int) = 0 by decide), show u' + (l + 4 + 4) = l + 4 + 4 + u' by omega]
        have F38 : F3 8 o 8 = tr := by rw [fk 8 (by decide) (by decide) (by decide)]; exact g8
        by_cases v : s' = 1297379947
        · rw [if_pos (zcmp_0.mpr v), if_neg (show ¬ ¬ s' = 1297379947 from fun h => h v), e01, if_pos (show r32 (F 0 0 1) by unfold r32; omega), if_pos (show r64 (l + 4 + 4 + u') by unfold r64; omega), if_pos (show r64 (F 0 0 1) by unfold r64; omega)]
          have s1 := db3.1.1
          have zm : zmin (l + 4 + 4 + u') (F 0 0 1) ≤ l + 4 + 4 + u' ∧ zmin (l + 4 + 4 + u') (F 0 0 1) ≤ F 0 0 1 ∧ (zmin (l + 4 + 4 + u') (F 0 0 1) = l + 4 + 4 + u' ∨ zmin (l + 4 + 4 + u') (F 0 0 1) = F 0 0 1) := by unfold zmin; split <;> omega
          have g3' := gk 3 (by decide)
          have gle := g.2.2.2.2
          have gt : RG o (l + 4 + 4) (zup3 F3 8 o 6 (zmin (l + 4 + 4 + u') (F 0 0 1))) (zup3 G3 14 0 90 (l + 4 + 4 + u')) := by
            have q7 := g.1
            have q17 := g.2.1
            unfold RG
            simp only [zup3_v]
            simp
            omega
          have wt : OW o q (zup3 F3 8 o 6 (zmin (l + 4 + 4 + u') (F 0 0 1))) B3 (zup3 G3 14 0 90 (l + 4 + 4 + u')) D3 := OW_x w3 (by rw [zup3_v, if_neg (by first | decide | omega)]) (fun c y k n => by rw [zup3_v, if_neg (by first | decide | omega)]) (fun _ _ _ _ _ => rfl) (fun c y k n => by rw [zup3_v, if_neg (by first | decide | omega)]) (fun _ _ _ _ _ => rfl)
          have h6 : 0 ≤ (zup3 F3 8 o 6 (zmin (l + 4 + 4 + u') (F 0 0 1))) 8 o 6 := by rw [zup3_v, if_pos (by first | decide | omega)]; omega
          have dbt : DB o tr (zup3 F3 8 o 6 (zmin (l + 4 + 4 + u') (F 0 0 1))) B3 (zup3 G3 14 0 90 (l + 4 + 4 + u')) D3 := ⟨by rw [zup3_v, if_neg (by first | decide | omega)]; exact SND_f db3.1 (by first | decide | omega) (by rw [zup3_v, if_neg (by first | decide | omega)]) (by rw [zup3_v, if_neg (by first | decide | omega)]) (fun _ _ _ _ => rfl) (fun _ _ _ _ => rfl), db.2.1, HD_x hd3 (fun k k0 k1 => by rw [zup3_v, if_neg (by first | decide | omega)]) (fun _ => rfl) (fun k k0 k1 => by rw [zup3_v, if_neg (by first | decide | omega)]) (fun _ => rfl)⟩
          refine P_bind (P_track (Km := Km) h0 ho hK hKm (by first | decide | omega) (by first | decide | omega) tq wt dbt gt h6 (by rw [zup3_v, if_pos (by first | decide | omega)]) (by rw [zup3_v, if_neg (by first | decide | omega)]; exact F38)) (fun c F4 B4 c' G4 D4 y => ?_)
          obtain ⟨w4, y⟩ := y
          rcases y with ⟨a4, g4, g46, e90, e84, db4⟩ | ⟨x4, x46⟩
          · have ga4 := g4.2.2.1
            have gl4 := g4.2.2.2.2
            have hh4 := db4.2.2
            unfold HD at hh4
            have s14 := db4.1.1
            rw [e84]
            have k8 : ∀ k, k ≠ 8 → (zup3 F4 8 o 8 (tr + 1)) 8 o k = F4 8 o k := fun k n => by rw [zup3_v, if_neg (by first | decide | omega)]
            have w5 : OW o q (zup3 F4 8 o 8 (tr + 1)) B4 G4 D4 := OW_x w4 (k8 4 (by decide)) (fun c y k n => by rw [zup3_v, if_neg (by first | decide | omega)]) (fun _ _ _ _ _ => rfl) (fun _ _ _ _ => rfl) (fun _ _ _ _ _ => rfl)
            have db5 : DB o (tr + 1) (zup3 F4 8 o 8 (tr + 1)) B4 G4 D4 := ⟨by rw [k8 2 (by decide)]; exact SND_f db4.1 (by first | decide | omega) (k8 2 (by decide)) rfl (fun _ _ _ _ => rfl) (fun _ _ _ _ => rfl), db4.2.1, HD_x db4.2.2 (fun k k0 k1 => k8 k (by first | decide | omega)) (fun _ => rfl) (fun _ _ _ => rfl) (fun _ => rfl)⟩
            have m74 : tr + 1 ≤ D4 14 0 74 0 := by
              have a1 := w4.2.2.2.2 14 0 74 0 (by first | decide | omega)
              have a2 := w.2.2.2.2 14 0 74 0 (by first | decide | omega)
              omega
            exact P_nx (a := a4) (b := a4) h0 ho tq (by first | decide | omega) w5 db5 ⟨by rw [k8 7 (by decide)]; exact g4.1, g4.2.1, by rw [k8 5 (by decide)]; exact ga4.1, ga4.2.2.1, ga4.2.2.2⟩ ⟨by rw [zup3_v, if_pos (by first | decide | omega)], (by first | decide | omega), m74⟩ (by first | decide | omega) ⟨ga4.2.1, ga4.2.2⟩ (fun F B Fm Bm hk => ih (p' + 1) (r' + 1) (n + 1) (tr + 1) (l + 4 + 4 + u') F B Fm Bm (by first | decide | omega) (by first | decide | omega) (by first | decide | omega) (by first | decide | omega) (by first | decide | omega) hk)
          · have k8 : ∀ k, k ≠ 8 → (zup3 F4 8 o 8 (F4 8 o 8 + 1)) 8 o k = F4 8 o k := fun k n => by rw [zup3_v, if_neg (by first | decide | omega)]
            exact P_fx h0 ho tq (by first | decide | omega) (by first | decide | omega) (by first | decide | omega) (OW_x w4 (k8 4 (by decide)) (fun c y k n => by rw [zup3_v, if_neg (by first | decide | omega)]) (fun _ _ _ _ _ => rfl) (fun _ _ _ _ => rfl) (fun _ _ _ _ _ => rfl)) (RX_f x4 (k8 5 (by decide)) (k8 6 (by decide)) (k8 7 (by decide)) rfl rfl rfl) (by rw [k8 6 (by decide), zup3_v, if_neg (by first | decide | omega)]; exact x46)
        · rw [if_neg (fun x => v (zcmp_0.mp x)), if_pos v]
          exact P_nx (a := l + 4 + 4) (b := l + 4 + 4) h0 ho tq (by first | decide | omega) w3 db3 ⟨g.1, g.2.1, ga.1, ga.2.2.1, ga.2.2.2⟩ ⟨F38, t0, t1⟩ (by first | decide | omega) ⟨ga.2.1, ga.2.2⟩ (fun F B Fm Bm hk => ih (p' + 1) (r' + 1) (n + 1) tr (l + 4 + 4 + u') F B Fm Bm (by first | decide | omega) (by first | decide | omega) (by first | decide | omega) (by first | decide | omega) (by first | decide | omega) hk)
      · have x7 := x7_n x
        have xx := x
        obtain ⟨_, _, _, q5, _, _, q89⟩ := xx
        rw [if_pos (show r32 (F3 8 o 5) by unfold r32; omega), if_pos x7.1, if_neg x7.2, if_pos (show r32 (G3 14 0 89) by unfold r32; omega), L_goodX x, zb_s, if_pos (show r32 0 by decide), if_pos (show (0 : Int) = 0 from rfl)]
        exact P_fx h0 ho tq (by first | decide | omega) (by first | decide | omega) (by first | decide | omega) w3 x x6
end
end
end
section
section
/-! ===== a file opened whole, both sides ===== -/
theorem C_sd68 {K : zK} {o : Int} {F : zF} (ho : 0 ≤ o ∧ o < K.2 8) : ∀ (d m : Nat) (i : Int) (B : zB), i + d = 8 → 0 ≤ i → d < m → ∃ B', f_SoundFile_setDefaults_68 K m i o F B = some (0, F, B') ∧ (∀ c y k x, ¬ (c = 8 ∧ y = o ∧ k = 3) → B' c y k x = B c y k x) ∧ (∀ x, i ≤ x → x < 8 → B' 8 o 3 x = -1) ∧ (∀ x, x < i → B' 8 o 3 x = B 8 o 3 x) := by
  intro d
  induction d with
  | zero =>
    intro m i B e i0 hm
    obtain ⟨p, rfl⟩ : ∃ p, m = p + 1 := ⟨m - 1, (by first | decide | omega)⟩
    refine ⟨B, ?_, fun _ _ _ _ _ => rfl, fun x _ _ => (by first | decide | omega), fun _ _ => rfl⟩
    rw [f_SoundFile_setDefaults_68, if_pos (by unfold r32; omega), if_pos (by first | decide | omega)]
  | succ d ih =>
    intro m i B e i0 hm
    obtain ⟨p, rfl⟩ : ∃ p, m = p + 1 := ⟨m - 1, (by first | decide | omega)⟩
    obtain ⟨B', e1, e2, e3, e4⟩ := ih p (i + 1) (zup4 B 8 o 3 i (-1)) (by first | decide | omega) (by first | decide | omega) (by first | decide | omega)
    refine ⟨B', ?_, fun c y k x n => ?_, fun x x0 x1 => ?_, fun x x0 => ?_⟩
    · rw [f_SoundFile_setDefaults_68, if_pos (by unfold r32; omega), if_neg (by first | decide | omega), if_pos ho, if_pos (by first | decide | omega)]
      exact e1
    · rw [e2 c y k x n, zup4_v, if_neg (by first | decide | omega)]
    · by_cases z : x = i
      · rw [e4 x (by first | decide | omega), zup4_v, if_pos (by first | decide | omega)]
      · exact e3 x (by first | decide | omega) x1
    · rw [e4 x (by first | decide | omega), zup4_v, if_neg (by first | decide | omega)]
/-- the reference at a file's end: a fault there -/
theorem L_nxF {Km : Nat} {F : zF} {B : zB} (h : F 14 0 17 = 2) : f_M_next Km F B = some (0, F, B) := by
  have e : f_M_good Km F B = some (0, F, B) := by
    unfold f_M_good f_M_good_12
    rw [h, if_pos (by decide), if_neg (by decide), if_pos (by decide)]
  unfold f_M_next
  rw [e, zb_s, if_pos (by decide), if_pos rfl]
theorem L_w5 {Km m : Nat} {k v : Int} {F : zF} {B : zB} (hk : 0 ≤ k ∧ k < 4) (G : zF) (e : f_M_next Km F B = some (0, G, B)) : f_M_whole_5 Km (m + 1) k 0 4 F B = f_M_whole_5 Km m (k + 1) 0 4 G B := by
  rw [f_M_whole_5, if_pos (by unfold r32; omega), if_pos (by decide), if_neg (by first | decide | omega), e, zb_s, if_pos (by decide), zlor8 (by decide) (by decide) (by decide) (by decide)]
  rfl
theorem L_wE {Km : Nat} {F : zF} {B : zB} (hK : 10 ≤ Km) (G : zF) (e : f_M_next Km F B = some (0, G, B)) (h : G 14 0 17 = 2) : f_M_whole Km 4 F B = some (0, G, B) := by
  obtain ⟨m, em⟩ : ∃ m, Km = m + 1 + 1 + 1 + 1 + 1 := ⟨Km - 5, (by first | decide | omega)⟩
  have e5 : ∀ j, f_M_whole_5 Km (j + 1) 4 0 4 G B = some (0, G, B) := fun j => by
    rw [f_M_whole_5, if_pos (by decide), if_pos (by decide), if_pos (by decide)]
  have go : ∀ j, f_M_whole_5 Km (j + 1 + 1 + 1 + 1 + 1) 0 0 4 F B = some (0, G, B) := fun j => by
    rw [L_w5 (v := 0) (by decide) G e, L_w5 (v := 0) (by decide) G (L_nxF h), L_w5 (v := 0) (by decide) G (L_nxF h), L_w5 (v := 0) (by decide) G (L_nxF h)]
    exact e5 j
  have g : f_M_whole Km 4 F B = f_M_whole_5 Km Km 0 0 4 F B := rfl
  rw [g]
  have := go m
  rw [← em] at this
  exact this
/-- the head says more than there is: the reference finds it at the first chunk -/
theorem P_late {K : zK} {Km : Nat} {o l : Int} {q : zF × zB × zF × zB} {F : zF} {B : zB} {Fm : zF} {Bm : zB} (h0 : 2 ≤ K.2 0) (ho : 0 ≤ o ∧ o < K.2 8) (hK : 4000 ≤ K.1) (hKm : 4000 ≤ Km) (tq : TQ q) (w : OW o q F B Fm Bm) (g7 : F 8 o 7 = 2 + 16 * F 0 0 1) (g17 : Fm 14 0 17 = 0) (hl : F 0 0 1 < l ∧ l ≤ 17179869184) (h74 : 1 ≤ Bm 14 0 74 0 ∧ Bm 14 0 74 0 ≤ 8) (x5 : (0 ≤ F 8 o 5 ∧ F 8 o 5 ≤ 3000) ∧ F 8 o 6 ≤ 3000 ∧ -1 ≤ F 8 o 6) : zP (f_SoundFile_load_43 K K.1 0 o 0 F B) (f_M_open_81 Km Km 0 l Fm Bm) (QL o q) := by
  have n3 := (RO_w tq w).2.1
  obtain ⟨m, em⟩ : ∃ m, K.1 = m + 1 := ⟨K.1 - 1, (by first | decide | omega)⟩
  obtain ⟨r, er⟩ : ∃ m, Km = m + 1 + 1 := ⟨Km - 2, (by first | decide | omega)⟩
  have ec : ∀ j, f_SoundFile_load_43 K (j + 1) 0 o 0 F B = f_SoundFile_load_169 K o F B := fun j => by
    rw [f_SoundFile_load_43, if_pos (by decide), if_neg (by decide), if_pos ho, if_pos (show r32 (F 8 o 7) by unfold r32; omega), if_neg (by first | decide | omega)]
  have hs : GSm (Fm 14 0 3) (Fm 14 0 3) (zup3 (zup3 Fm 14 0 89 (Fm 14 0 3)) 14 0 90 3000) := by
    unfold GSm
    simp only [zup3_v]
    simp
    omega
  have e1 := L_nxE (Km := Km) (Bm := Bm) hs (by first | decide | omega)
  generalize hG : zup3 (zup3 (zup3 (zup3 Fm 14 0 89 (Fm 14 0 3)) 14 0 90 3000) 14 0 17 2) 14 0 18 (Fm 14 0 3) = G at e1
  have k17 : G 14 0 17 = 2 := by rw [← hG, zup3_v, if_neg (by first | decide | omega), zup3_v, if_pos (by first | decide | omega)]
  have k18 : G 14 0 18 = Fm 14 0 3 := by rw [← hG, zup3_v, if_pos (by first | decide | omega)]
  have k89 : G 14 0 89 = Fm 14 0 3 := by rw [← hG, zup3_v, if_neg (by first | decide | omega), zup3_v, if_neg (by first | decide | omega), zup3_v, if_neg (by first | decide | omega), zup3_v, if_pos (by first | decide | omega)]
  have k3 : G 14 0 3 = Fm 14 0 3 := by rw [← hG, zup3_v, if_neg (by first | decide | omega), zup3_v, if_neg (by first | decide | omega), zup3_v, if_neg (by first | decide | omega), zup3_v, if_neg (by first | decide | omega)]
  have kn : ∀ c y k, ¬ (c = 14 ∧ y = 0 ∧ (k = 17 ∨ k = 18 ∨ k = 89 ∨ k = 90)) → G c y k = Fm c y k := fun c y k n => by rw [← hG, zup3_v, if_neg (by first | decide | omega), zup3_v, if_neg (by first | decide | omega), zup3_v, if_neg (by first | decide | omega), zup3_v, if_neg (by first | decide | omega)]
  have e2 := L_wE (by first | decide | omega) G e1 k17
  have e3 := L_wE (Km := Km) (B := Bm) (by first | decide | omega) G (L_nxF k17) k17
  have x : RX o F G := by
    unfold RX
    rw [k17, k18, k89]
    omega
  have e4 : ∀ j, f_M_open_81 Km (j + 1 + 1) 0 l Fm Bm = f_M_open_198 Km G Bm := fun j => by
    have e5 : f_M_open_81 Km (j + 1) 0 (Fm 14 0 3 + 0) G Bm = f_M_open_198 Km G Bm := by
      rw [f_M_open_81, L_goodX x, zb_s, if_pos (show r32 0 by decide), if_pos (show (0 : Int) = 0 from rfl)]
    rw [f_M_open_81, L_good g17, zb_s, if_pos (show r32 1 by decide), if_neg (show ¬ (1 : Int) = 0 by decide), if_pos (show r32 0 by decide), if_pos (show r32 (Bm 14 0 74 0) by unfold r32; omega), if_neg (by first | decide | omega), if_pos (show r32 (Fm 14 0 3) by unfold r32; omega), if_pos (show r64 l by unfold r64; omega), if_pos (show r64 (Fm 14 0 3) by unfold r64; omega), if_pos (zcmp_o.mpr (by first | decide | omega))]
    unfold f_M_open_118 f_M_isTrack f_M_isTrack_22
    rw [if_pos (show r32 (Fm 14 0 3) by unfold r32; omega), e2, zb_s, L_code (by first | decide | omega), zb_s, if_pos (show r64 0 by decide), if_pos (show r64 1297379947 by decide), if_neg (show ¬ zcmp 0 1297379947 = 0 from fun h => by have := zcmp_0.mp h; omega), if_pos (show (0 : Int) = 0 ∨ (0 : Int) = 1 from Or.inl rfl), zb_s, e3, zb_s, k89, if_pos (show r32 (Fm 14 0 3) by unfold r32; omega), L_goodX x, zb_s, if_pos (show r32 0 by decide), if_pos (show (0 : Int) = 0 from rfl)]
    unfold f_M_open_176 f_M_open_195
    rw [k3, if_pos (show r32 (Fm 14 0 3) by unfold r32; omega), if_pos (show r64 (Fm 14 0 3 + 0) by unfold r64; omega), if_pos (show r64 (Fm 14 0 3) by unfold r64; omega), if_pos (zcmp_m.mpr (by first | decide | omega)), e5]
  have ec' := ec m
  have e4' := e4 r
  rw [← em] at ec'
  rw [← er] at e4'
  rw [ec', e4']
  exact P_okX ho (OW_x w rfl (fun _ _ _ _ => rfl) (fun _ _ _ _ _ => rfl) (fun c y k n => kn c y k (by first | decide | omega)) (fun _ _ _ _ _ => rfl)) x
theorem P_ld {K : zK} {Km : Nat} {o : Int} {F : zF} {B : zB} {Fm : zF} {Bm : zB} (h0 : 2 ≤ K.2 0) (ho : 0 ≤ o ∧ o < K.2 8) (hK : 4000 ≤ K.1) (hKm : 4000 ≤ Km) (hT : IT F B Fm Bm) : zP (f_SoundFile_load K o 0 F B) (f_M_open Km Fm Bm) (QL o (F, B, Fm, Bm)) := by
  obtain ⟨t1, t2, t3, t4, t5⟩ := hT
  unfold f_SoundFile_load f_M_open f_SoundFile_setDefaults
  rw [if_pos ho, if_pos (show (0 : Int) ≤ 0 ∧ (0 : Int) < K.2 0 by omega), if_pos (show (0 : Int) < K.2 0 by omega), if_pos ho]
  generalize hF1 : zup3 (zup3 (zup3 (zup3 (zup3 (zup3 (zup3 (zup3 F 8 o 4 0) 8 o 5 0) 8 o 6 (F 0 0 1)) 8 o 7 0) 8 o 2 0) 8 o 12 0) 8 o 13 0) 8 o 14 0 = F1
  generalize hB1 : zup4 (zup4 (zup4 (zup4 (zup4 (zup4 (zup4 B 8 o 0 0 0) 8 o 0 1 0) 8 o 0 2 0) 8 o 0 3 0) 8 o 0 4 4) 8 o 0 5 4) 8 o 0 6 120 = B1
  generalize hG1 : zup3 (zup3 (zup3 (zup3 (zup3 (zup3 (zup3 Fm 14 0 17 0) 14 0 89 0) 14 0 90 3000) 14 0 94 0) 14 0 91 0) 14 0 92 0) 14 0 93 0 = G1
  generalize hD1 : zup4 (zup4 (zup4 (zup4 (zup4 Bm 14 0 74 2 0) 14 0 74 3 0) 14 0 74 4 4) 14 0 74 5 4) 14 0 74 6 120 = D1
  have fF : ∀ c y k, ¬ (c = 8 ∧ y = o) → F1 c y k = F c y k := fun c y k n => by rw [← hF1]; rw [zup3_v, if_neg (by first | decide | omega), zup3_v, if_neg (by first | decide | omega), zup3_v, if_neg (by first | decide | omega), zup3_v, if_neg (by first | decide | omega), zup3_v, if_neg (by first | decide | omega), zup3_v, if_neg (by first | decide | omega), zup3_v, if_neg (by first | decide | omega), zup3_v, if_neg (by first | decide | omega)]
  have vF : F1 8 o 4 = 0 ∧ F1 8 o 5 = 0 ∧ F1 8 o 6 = F 0 0 1 ∧ F1 8 o 7 = 0 ∧ F1 8 o 2 = 0 ∧ F1 8 o 12 = 0 ∧ F1 8 o 13 = 0 ∧ F1 8 o 14 = 0 := by rw [← hF1]; simp [zup3_v]
  have fB : ∀ c y k x, ¬ (c = 8 ∧ y = o ∧ k = 0) → B1 c y k x = B c y k x := fun c y k x n => by rw [← hB1]; rw [zup4_v, if_neg (by first | decide | omega), zup4_v, if_neg (by first | decide | omega), zup4_v, if_neg (by first | decide | omega), zup4_v, if_neg (by first | decide | omega), zup4_v, if_neg (by first | decide | omega), zup4_v, if_neg (by first | decide | omega), zup4_v, if_neg (by first | decide | omega)]
  have vB : B1 8 o 0 2 = 0 ∧ B1 8 o 0 3 = 0 ∧ B1 8 o 0 4 = 4 ∧ B1 8 o 0 5 = 4 ∧ B1 8 o 0 6 = 120 := by rw [← hB1]; simp [zup4_v]
  have fG : ∀ c y k, ¬ (c = 14 ∧ y = 0 ∧ (k = 17 ∨ (89 ≤ k ∧ k ≤ 94))) → G1 c y k = Fm c y k := fun c y k n => by rw [← hG1]; rw [zup3_v, if_neg (by first | decide | omega), zup3_v, if_neg (by first | decide | omega), zup3_v, if_neg (by first | decide | omega), zup3_v, if_neg (by first | decide | omega), zup3_v, if_neg (by first | decide | omega), zup3_v, if_neg (by first | decide | omega), zup3_v, if_neg (by first | decide | omega)]
  have vG : G1 14 0 17 = 0 ∧ G1 14 0 89 = 0 ∧ G1 14 0 90 = 3000 ∧ G1 14 0 94 = 0 ∧ G1 14 0 91 = 0 ∧ G1 14 0 92 = 0 ∧ G1 14 0 93 = 0 := by rw [← hG1]; simp [zup3_v]
  have fD : ∀ c y k x, ¬ (c = 14 ∧ y = 0 ∧ k = 74) → D1 c y k x = Bm c y k x := fun c y k x n => by rw [← hD1]; rw [zup4_v, if_neg (by first | decide | omega), zup4_v, if_neg (by first | decide | omega), zup4_v, if_neg (by first | decide | omega), zup4_v, if_neg (by first | decide | omega), zup4_v, if_neg (by first | decide | omega)]
  have vD : D1 14 0 74 2 = 0 ∧ D1 14 0 74 3 = 0 ∧ D1 14 0 74 4 = 4 ∧ D1 14 0 74 5 = 4 ∧ D1 14 0 74 6 = 120 := by rw [← hD1]; simp [zup4_v]
  obtain ⟨B2, e1, e2, e3, _⟩ := C_sd68 (F := F1) ho 8 K.1 0 B1 (by first | decide | omega) (by first | decide | omega) (by first | decide | omega)
  rw [e1, zb_s]
  have b01 : F1 0 0 1 = F 0 0 1 := fF 0 0 1 (by first | decide | omega)
  have g03 : G1 14 0 3 = Fm 14 0 3 := fG 14 0 3 (by first | decide | omega)
  have hO : RO o F1 B2 G1 D1 := by
    refine ⟨vF.1, by rw [b01, g03]; exact ⟨t1, t2, t3⟩, fun y => by rw [e2 0 0 0 y (by first | decide | omega), fB 0 0 0 y (by first | decide | omega)]; exact t4 y, ?_⟩
    funext y
    show D1 14 0 2 y % 256 = _
    rw [fD 14 0 2 y (by first | decide | omega), e2 0 0 0 y (by first | decide | omega), fB 0 0 0 y (by first | decide | omega), ← t5]
    rfl
  have hG : RG o 0 F1 G1 := by
    unfold RG
    rw [g03]
    omega
  refine P_bind (P_lh (Km := Km) h0 ho (by first | decide | omega) (by first | decide | omega) hO (by rw [b01]; omega) hG (by first | decide | omega)) (fun r F3 B3 l G3 D3 y => ?_)
  obtain ⟨⟨k1, k2, k3, k4⟩, y⟩ := y
  have hO3 : RO o F3 B3 G3 D3 := by
    obtain ⟨o1, o2, o3, o4⟩ := hO
    refine ⟨by rw [k1 8 o 4 (by first | decide | omega)]; exact o1, by rw [k1 0 0 1 (by first | decide | omega), k2 14 0 3 (by first | decide | omega)]; exact o2, fun y => by rw [k3 0 0 0 y (by first | decide | omega)]; exact o3 y, ?_⟩
    funext y
    show D3 14 0 2 y % 256 = _
    rw [k4 14 0 2 y (by first | decide | omega), k3 0 0 0 y (by first | decide | omega)]
    exact congrFun o4 y
  have z8 : ∀ k, k ≠ 8 → (zup3 F3 8 o 8 0) 8 o k = F3 8 o k := fun k n => by rw [zup3_v, if_neg (by first | decide | omega)]
  have z01 : (zup3 F3 8 o 8 0) 0 0 1 = F3 0 0 1 := by rw [zup3_v, if_neg (by first | decide | omega)]
  have tq : TQ (zup3 F3 8 o 8 0, B3, G3, D3) := by
    refine ⟨?_, hO3.2.2.1, hO3.2.2.2⟩
    show (zup3 F3 8 o 8 0) 0 0 1 = G3 14 0 3 ∧ 0 ≤ (zup3 F3 8 o 8 0) 0 0 1 ∧ (zup3 F3 8 o 8 0) 0 0 1 ≤ 3000
    rw [z01]
    exact hO3.2.1
  have n3 := hO3.2.1
  have w : OW o (zup3 F3 8 o 8 0, B3, G3, D3) (zup3 F3 8 o 8 0) B3 G3 D3 := ⟨by rw [z8 4 (by decide)]; exact hO3.1, fun _ _ _ _ => rfl, fun _ _ _ _ _ => rfl, fun _ _ _ _ => rfl, fun _ _ _ _ _ => rfl⟩
  have key : zP (f_SoundFile_load_43 K K.1 0 o 0 (zup3 F3 8 o 8 0) B3) (f_M_open_81 Km Km 0 l G3 D3) (QL o (zup3 F3 8 o 8 0, B3, G3, D3)) := by
    rcases y with ⟨⟨m17, l0, l1⟩, hh, y⟩ | ⟨x, x6⟩
    · rcases y with ⟨g7, g5, gl⟩ | ⟨g7, gl, gz⟩
      · refine P_ll h0 ho hK hKm tq 3008 K.1 Km 0 0 l _ B3 G3 D3 (by first | decide | omega) (by first | decide | omega) (by first | decide | omega) (by first | decide | omega) (by first | decide | omega) ⟨w, ⟨?_, fun k k0 k1' => ?_, ?_⟩, ⟨by rw [z8 7 (by decide)]; exact g7, m17, by rw [z8 5 (by decide)]; exact g5, l0, by rw [z01]; exact gl⟩, ⟨by rw [zup3_v, if_pos (by first | decide | omega)], (by first | decide | omega), (by first | decide | omega)⟩⟩
        · have c0 : (zup3 F3 8 o 8 0) 8 o 2 = 0 := by rw [z8 2 (by decide), k1 8 o 2 (by first | decide | omega)]; exact vF.2.2.2.2.1
          have c1 : G3 14 0 94 = 0 := by rw [k2 14 0 94 (by first | decide | omega)]; exact vG.2.2.2.1
          unfold SND
          rw [c0, c1]
          exact ⟨(by first | decide | omega), fun i _ _ => (by first | decide | omega), fun i _ _ => (by first | decide | omega), fun i _ _ => (by first | decide | omega), fun i _ _ => (by first | decide | omega), fun i _ _ => (by first | decide | omega)⟩
        · have v : B3 8 o 3 k = -1 := by rw [k3 8 o 3 k (by first | decide | omega)]; exact e3 k k0 k1'
          rw [v]
          exact ⟨(by first | decide | omega), fun _ => (by first | decide | omega), fun _ => rfl⟩
        · unfold HD
          rw [z8 12 (by decide), z8 13 (by decide), z8 14 (by decide), k1 8 o 12 (by first | decide | omega), k1 8 o 13 (by first | decide | omega), k1 8 o 14 (by first | decide | omega), k2 14 0 91 (by first | decide | omega), k2 14 0 92 (by first | decide | omega), k2 14 0 93 (by first | decide | omega), k3 8 o 0 2 (by first | decide | omega), k3 8 o 0 3 (by first | decide | omega), k3 8 o 0 4 (by first | decide | omega), k3 8 o 0 5 (by first | decide | omega), k3 8 o 0 6 (by first | decide | omega), e2 8 o 0 2 (by first | decide | omega), e2 8 o 0 3 (by first | decide | omega), e2 8 o 0 4 (by first | decide | omega), e2 8 o 0 5 (by first | decide | omega), e2 8 o 0 6 (by first | decide | omega), k4 14 0 74 2 (by first | decide | omega), k4 14 0 74 3 (by first | decide | omega), k4 14 0 74 4 (by first | decide | omega), k4 14 0 74 5 (by first | decide | omega), k4 14 0 74 6 (by first | decide | omega)]
          omega
      · exact P_late h0 ho hK hKm tq w (by rw [z8 7 (by decide), z01]; exact g7) m17 (by rw [z01]; omega) (by first | decide | omega) (by rw [z8 5 (by decide), z8 6 (by decide), k1 8 o 6 (by first | decide | omega)]; omega)
    · have x' : RX o (zup3 F3 8 o 8 0) G3 := RX_f x (z8 5 (by decide)) (z8 6 (by decide)) (z8 7 (by decide)) rfl rfl rfl
      have x7 := x7_n x'
      obtain ⟨m, em⟩ : ∃ m, K.1 = m + 1 := ⟨K.1 - 1, (by first | decide | omega)⟩
      obtain ⟨r, er⟩ : ∃ m, Km = m + 1 := ⟨Km - 1, (by first | decide | omega)⟩
      have ec : ∀ j, f_SoundFile_load_43 K (j + 1) 0 o 0 (zup3 F3 8 o 8 0) B3 = f_SoundFile_load_169 K o (zup3 F3 8 o 8 0) B3 := fun j => by
        rw [f_SoundFile_load_43, if_pos (by decide), if_neg (by decide), if_pos ho, if_pos x7.1, if_neg x7.2]
      have e5 : ∀ j, f_M_open_81 Km (j + 1) 0 l G3 D3 = f_M_open_198 Km G3 D3 := fun j => by
        rw [f_M_open_81, L_goodX x', zb_s, if_pos (show r32 0 by decide), if_pos (show (0 : Int) = 0 from rfl)]
      have ec' := ec m
      have e5' := e5 r
      rw [← em] at ec'
      rw [← er] at e5'
      rw [ec', e5']
      exact P_okX ho w x'
  obtain ⟨r, F5, B5, r', G5, D5, u1, u2, u3, u4, ⟨v1, v2, v3, v4⟩, u5, u6⟩ := key
  refine ⟨r, F5, B5, r', G5, D5, u1, u2, u3, u4, ⟨fun c y k n => ?_, fun c y k x n => ?_, fun c y k n => ?_, fun c y k x n => ?_⟩, u5, ?_⟩
  · rw [v1 c y k n]
    show (zup3 F3 8 o 8 0) c y k = F c y k
    rw [zup3_v, if_neg (by first | decide | omega), k1 c y k (by first | decide | omega), fF c y k n]
  · rw [v2 c y k x n]
    show B3 c y k x = B c y k x
    rw [k3 c y k x (by first | decide | omega), e2 c y k x (by first | decide | omega), fB c y k x (by first | decide | omega)]
  · rw [v3 c y k n]
    show G3 c y k = Fm c y k
    rw [k2 c y k (by first | decide | omega), fG c y k (by first | decide | omega)]
  · rw [v4 c y k x n]
    show D3 c y k x = Bm c y k x
    rw [k4 c y k x (by first | decide | omega), fD c y k x (by first | decide | omega)]
  · rcases u6 with u6 | ⟨s1, s2, s3⟩
    · exact Or.inl u6
    · refine Or.inr ⟨s1, ?_, fun k x n => ?_⟩
      · rw [s2]
        show G3 14 0 72 = Fm 14 0 72
        rw [k2 14 0 72 (by first | decide | omega), fG 14 0 72 (by first | decide | omega)]
      · rw [s3 k x n]
        show D3 14 0 k x = Bm 14 0 k x
        rw [k4 14 0 k x (by first | decide | omega), fD 14 0 k x (by first | decide | omega)]
end
end
section
section
/-! ===== the call of open, both sides ===== -/
theorem OPN_f {o : Int} {F F' : zF} {B B' : zB} {Bm Bm' : zB} (h : OPN o F B Bm) (f : F' 8 o 2 = F 8 o 2) (b : ∀ k x, B' 8 o k x = B 8 o k x) (m : ∀ k x, k = 73 ∨ (75 ≤ k ∧ k ≤ 81) → Bm' 14 0 k x = Bm 14 0 k x) : OPN o F' B' Bm' := by
  obtain ⟨h1, h2, h3, h4, h5, h6⟩ := h
  have m73 : ∀ x, Bm' 14 0 73 x = Bm 14 0 73 x := fun x => m 73 x (by first | decide | omega)
  refine ⟨?_, ?_, fun i i0 i1 => ?_, fun i i0 i1 => ?_, fun i i0 i1 => ?_, fun k k0 k1 => ?_⟩
  · simp only [b, m73]; exact h1
  · rw [f, m73]; exact h2
  · rw [f] at i1
    rw [b, b, b, b, b, b, m 75 i (by first | decide | omega), m 76 i (by first | decide | omega), m 77 i (by first | decide | omega), m 78 i (by first | decide | omega), m 79 i (by first | decide | omega), m 80 i (by first | decide | omega)]; exact h3 i i0 i1
  · rw [f] at i1
    rw [m73, m 75 i (by first | decide | omega), m 76 i (by first | decide | omega), m 77 i (by first | decide | omega), m 78 i (by first | decide | omega), m 79 i (by first | decide | omega), m 80 i (by first | decide | omega)]; exact h4 i i0 i1
  · rw [f] at i1
    rw [m 75 i (by first | decide | omega), m 79 i (by first | decide | omega), m 75 (i + 1) (by first | decide | omega), m 79 (i + 1) (by first | decide | omega)]; exact h5 i i0 i1
  · rw [m73] at k1
    rw [b, m 81 k (by first | decide | omega)]; exact h6 k k0 k1
/-- the file that is open and the spare one -/
def IOp (K : zK) (F : zF) (B : zB) (Fm : zF) (Bm : zB) : Prop := (F 12 0 9 < K.2 8 ∧ F 12 0 8 < K.2 8) ∧ (0 ≤ F 12 0 9 → ¬ F 12 0 9 = F 12 0 8) ∧ ((F 12 0 9 < 0 ∧ F 12 0 8 < 0 ∧ K.2 8 = 0) ∨ (F 12 0 9 < 0 ∧ 0 ≤ F 12 0 8 ∧ K.2 8 = 1) ∨ (0 ≤ F 12 0 9 ∧ F 12 0 8 < 0 ∧ K.2 8 = 1) ∨ (0 ≤ F 12 0 9 ∧ 0 ≤ F 12 0 8 ∧ K.2 8 = 2)) ∧ ((F 12 0 8 < 0 ∧ Fm 14 0 72 = 0) ∨ (0 ≤ F 12 0 8 ∧ Fm 14 0 72 = 1 ∧ OPN (F 12 0 8) F B Bm))
def opF (F F' : zF) : Prop := ∀ c y k, ¬ (c = 8 ∨ (c = 0 ∧ y = 0 ∧ 1 ≤ k ∧ k ≤ 2) ∨ (c = 12 ∧ y = 0 ∧ 8 ≤ k ∧ k ≤ 9)) → F' c y k = F c y k
def opB (B B' : zB) : Prop := ∀ c y k x, ¬ c = 8 → B' c y k x = B c y k x
def opG (F F' : zF) : Prop := ∀ c y k, ¬ (c = 14 ∧ y = 0 ∧ (k = 3 ∨ k = 17 ∨ k = 18 ∨ k = 72 ∨ (89 ≤ k ∧ k ≤ 94))) → F' c y k = F c y k
def opH (B B' : zB) : Prop := ∀ c y k x, ¬ (c = 14 ∧ y = 0 ∧ 73 ≤ k ∧ k ≤ 88) → B' c y k x = B c y k x
theorem P_o18 {K : zK} {Km : Nat} {o : Int} {F : zF} {B : zB} {Fm : zF} {Bm : zB} (h0 : 2 ≤ K.2 0) (h12 : 0 < K.2 12) (hK : 4000 ≤ K.1) (hKm : 4000 ≤ Km) (f0 : F 12 0 0 = 0) (e9 : F 12 0 9 = o) (ho : 0 ≤ o ∧ o < K.2 8) (hT : IT F B Fm Bm) (hI : IOp K F B Fm Bm) : ∃ r F' B' Fm' Bm', f_S_open_18 K 0 F B = some (r, F', B', K) ∧ f_M_open Km Fm Bm = some (r, Fm', Bm') ∧ (0 ≤ r ∧ r ≤ 100000) ∧ opF F F' ∧ opB B B' ∧ opG Fm Fm' ∧ opH Bm Bm' ∧ IT F' B' Fm' Bm' ∧ IOp K F' B' Fm' Bm' := by
  obtain ⟨r, F1, B1, r', G1, D1, u1, u2, rfl, u4, ⟨v1, v2, v3, v4⟩, u5, u6⟩ := P_ld (Km := Km) h0 ho hK hKm hT
  obtain ⟨t1, t2, t3, t4, t5⟩ := hT
  obtain ⟨⟨i1, i2⟩, i3, i4, i5⟩ := hI
  rw [e9] at i1 i3 i4
  have c0 : F1 12 0 0 = 0 := by rw [v1 12 0 0 (by first | decide | omega)]; exact f0
  have c8 : F1 12 0 8 = F 12 0 8 := v1 12 0 8 (by first | decide | omega)
  have c9 : F1 12 0 9 = o := by rw [v1 12 0 9 (by first | decide | omega)]; exact e9
  have k : ∀ c y k, ¬ (c = 0 ∧ y = 0 ∧ 1 ≤ k ∧ k ≤ 2) → (zup3 (zup3 F1 0 0 1 0) 0 0 2 0) c y k = F1 c y k := fun c y k n => by rw [zup3_v, if_neg (by first | decide | omega), zup3_v, if_neg (by first | decide | omega)]
  have ec : f_ByteRow_clear K 0 F1 B1 = some (0, zup3 (zup3 F1 0 0 1 0) 0 0 2 0, B1) := by
    unfold f_ByteRow_clear
    rw [if_pos (by first | decide | omega)]
  unfold f_S_open_18
  rw [if_pos ⟨(by first | decide | omega), h12⟩, e9, if_pos ho, f0, if_pos (by first | decide | omega), u1, zbN_s]
  have hB : B1 0 0 0 = B 0 0 0 := by funext x; exact v2 0 0 0 x (by first | decide | omega)
  have hD : tmB D1 = tmB Bm := by
    funext y
    show D1 14 0 2 y % 256 = Bm 14 0 2 y % 256
    rw [v4 14 0 2 y (by first | decide | omega)]
  by_cases z : r' = 0
  · subst z
    refine ⟨0, zup3 (zup3 (zup3 (zup3 F1 0 0 1 0) 0 0 2 0) 12 0 8 o) 12 0 9 (F 12 0 8), B1, G1, D1, ?_, u2, (by first | decide | omega), fun c y k n => ?_, fun c y k x n => v2 c y k x (by first | decide | omega), v3, v4, ?_, ?_⟩
    · rw [c0, if_pos (by first | decide | omega), ec, zbN_s, if_pos (by decide), if_pos rfl, k 12 0 9 (by first | decide | omega), k 12 0 8 (by first | decide | omega), c9, c8, if_pos ho.2, if_pos i2]
    · rw [zup3_v, if_neg (by first | decide | omega), zup3_v, if_neg (by first | decide | omega), zup3_v, if_neg (by first | decide | omega), zup3_v, if_neg (by first | decide | omega)]
      exact v1 c y k (by first | decide | omega)
    · refine ⟨?_, ?_, ?_, fun y => by rw [hB]; exact t4 y, by rw [hD, hB]; exact t5⟩
      · rw [u5]; simp [zup3_v]
      · simp [zup3_v]
      · simp [zup3_v]
    · have e9' : (zup3 (zup3 (zup3 (zup3 F1 0 0 1 0) 0 0 2 0) 12 0 8 o) 12 0 9 (F 12 0 8)) 12 0 9 = F 12 0 8 := by rw [zup3_v, if_pos (by first | decide | omega)]
      have e8' : (zup3 (zup3 (zup3 (zup3 F1 0 0 1 0) 0 0 2 0) 12 0 8 o) 12 0 9 (F 12 0 8)) 12 0 8 = o := by rw [zup3_v, if_neg (by first | decide | omega), zup3_v, if_pos (by first | decide | omega)]
      unfold IOp
      rw [e9', e8']
      rcases u6 with ⟨_, m72, op⟩ | ⟨n, _⟩
      · refine ⟨⟨i2, ho.2⟩, fun _ => (by first | decide | omega), (by first | decide | omega), Or.inr ⟨ho.1, m72, OPN_f op ?_ (fun _ _ => rfl) (fun _ _ _ => rfl)⟩⟩
        rw [zup3_v, if_neg (by first | decide | omega), zup3_v, if_neg (by first | decide | omega), zup3_v, if_neg (by first | decide | omega), zup3_v, if_neg (by first | decide | omega)]
      · exact absurd rfl n
  · refine ⟨r', zup3 (zup3 F1 0 0 1 0) 0 0 2 0, B1, G1, D1, ?_, u2, u4, fun c y k n => ?_, fun c y k x n => v2 c y k x (by first | decide | omega), v3, v4, ?_, ?_⟩
    · rw [c0, if_pos (by first | decide | omega), ec, zbN_s, if_pos (by unfold r32; omega), if_neg z]
    · rw [zup3_v, if_neg (by first | decide | omega), zup3_v, if_neg (by first | decide | omega)]
      exact v1 c y k (by first | decide | omega)
    · refine ⟨?_, ?_, ?_, fun y => by rw [hB]; exact t4 y, by rw [hD, hB]; exact t5⟩
      · rw [u5]; simp [zup3_v]
      · simp [zup3_v]
      · simp [zup3_v]
    · unfold IOp
      rw [k 12 0 9 (by first | decide | omega), k 12 0 8 (by first | decide | omega), c9, c8]
      rcases u6 with ⟨n, _⟩ | ⟨_, m72, mk⟩
      · exact absurd n z
      · refine ⟨⟨i1, i2⟩, i3, i4, ?_⟩
        rw [m72]
        rcases i5 with i5 | ⟨p0, p1, op⟩
        · exact Or.inl i5
        · refine Or.inr ⟨p0, p1, OPN_f op ?_ (fun k x => v2 8 _ k x (by first | decide | omega)) mk⟩
          rw [k 8 _ 2 (by first | decide | omega)]
          exact v1 8 _ 2 (by first | decide | omega)
theorem P_op {K : zK} {Km : Nat} {F : zF} {B : zB} {Fm : zF} {Bm : zB} (h0 : 2 ≤ K.2 0) (h12 : 0 < K.2 12) (hK : 4000 ≤ K.1) (hKm : 4000 ≤ Km) (f0 : F 12 0 0 = 0) (hT : IT F B Fm Bm) (hI : IOp K F B Fm Bm) : ∃ r F' B' K' Fm' Bm', f_S_open K 0 F B = some (r, F', B', K') ∧ f_M_open Km Fm Bm = some (r, Fm', Bm') ∧ (0 ≤ r ∧ r ≤ 100000) ∧ (K' = K ∨ (K.2 8 ≤ 1 ∧ K' = (K.1, zinN K.2 8))) ∧ opF F F' ∧ opB B B' ∧ opG Fm Fm' ∧ opH Bm Bm' ∧ IT F' B' Fm' Bm' ∧ IOp K' F' B' Fm' Bm' := by
  unfold f_S_open
  rw [if_pos ⟨(by first | decide | omega), h12⟩]
  by_cases z : F 12 0 9 < 0
  · obtain ⟨⟨i1, i2⟩, i3, i4, i5⟩ := hI
    have k8 : 0 ≤ K.2 8 := by omega
    have kn : ∀ c, ¬ c = 8 → zinN K.2 8 c = K.2 c := fun c hc => by rw [zinN_v, if_neg hc]
    have k8' : zinN K.2 8 8 = K.2 8 + 1 := by rw [zinN_v, if_pos rfl]
    have ei : f_SoundFile_init K F B = some (K.2 8, zinF F 8 (K.2 8) [0, 0, 0, 0, (-1), 0, 0, 0, 0, 0, 0, 0, 0, 0, 0], zinB B 8 (K.2 8) (fun _ _ => 0), (K.1, zinN K.2 8)) := by
      unfold f_SoundFile_init
      rw [if_pos k8, if_pos (by first | decide | omega)]
    rw [if_pos z, ei]
    simp only [zbindM]
    generalize hF1 : zinF F 8 (K.2 8) [0, 0, 0, 0, (-1), 0, 0, 0, 0, 0, 0, 0, 0, 0, 0] = F1
    generalize hB1 : zinB B 8 (K.2 8) (fun _ _ => 0) = B1
    have fn : ∀ c y k, ¬ (c = 8 ∧ y = K.2 8) → F1 c y k = F c y k := fun c y k a => by rw [← hF1, zinF_v, if_neg a]
    have bn : ∀ c y k x, ¬ (c = 8 ∧ y = K.2 8) → B1 c y k x = B c y k x := fun c y k x a => by rw [← hB1, zinB_v, if_neg a]
    have k12 : zinN K.2 8 12 = K.2 12 := kn 12 (by decide)
    unfold f_S_open_15
    rw [if_pos (show 0 ≤ K.2 8 ∧ K.2 8 < zinN K.2 8 8 by omega), if_pos (show (0 : Int) ≤ 0 ∧ (0 : Int) < zinN K.2 8 12 by omega), if_pos (show (0 : Int) ≤ 0 ∧ (0 : Int) < zinN K.2 8 12 by omega), if_pos (show K.2 8 < zinN K.2 8 8 by omega)]
    have w9 : ∀ c y k, ¬ (c = 12 ∧ y = 0 ∧ k = 9) → (zup3 F1 12 0 9 (K.2 8)) c y k = F1 c y k := fun c y k n => by rw [zup3_v, if_neg n]
    have e9 : (zup3 F1 12 0 9 (K.2 8)) 12 0 9 = K.2 8 := by rw [zup3_v, if_pos (by first | decide | omega)]
    have hT1 : IT (zup3 F1 12 0 9 (K.2 8)) B1 Fm Bm := by
      have : B1 0 0 0 = B 0 0 0 := by funext x; exact bn 0 0 0 x (by first | decide | omega)
      unfold IT at *
      rw [this, w9 0 0 1 (by first | decide | omega), fn 0 0 1 (by first | decide | omega)]
      exact hT
    have hI1 : IOp (K.1, zinN K.2 8) (zup3 F1 12 0 9 (K.2 8)) B1 Fm Bm := by
      have e8 : (zup3 F1 12 0 9 (K.2 8)) 12 0 8 = F 12 0 8 := by rw [w9 12 0 8 (by first | decide | omega), fn 12 0 8 (by first | decide | omega)]
      unfold IOp
      rw [e9, e8]
      show (K.2 8 < zinN K.2 8 8 ∧ F 12 0 8 < zinN K.2 8 8) ∧ _ ∧ ((K.2 8 < 0 ∧ F 12 0 8 < 0 ∧ zinN K.2 8 8 = 0) ∨ (K.2 8 < 0 ∧ 0 ≤ F 12 0 8 ∧ zinN K.2 8 8 = 1) ∨ (0 ≤ K.2 8 ∧ F 12 0 8 < 0 ∧ zinN K.2 8 8 = 1) ∨ (0 ≤ K.2 8 ∧ 0 ≤ F 12 0 8 ∧ zinN K.2 8 8 = 2)) ∧ _
      refine ⟨(by first | decide | omega), fun _ => (by first | decide | omega), (by first | decide | omega), ?_⟩
      rcases i5 with i5 | ⟨p0, p1, op⟩
      · exact Or.inl i5
      · refine Or.inr ⟨p0, p1, OPN_f op ?_ (fun k x => bn 8 _ k x (by first | decide | omega)) (fun _ _ _ => rfl)⟩
        rw [w9 8 _ 2 (by first | decide | omega), fn 8 _ 2 (by first | decide | omega)]
    obtain ⟨r, F', B', Fm', Bm', q1, q2, q3, q4, q5, q6, q7, q8, q9⟩ := P_o18 (K := (K.1, zinN K.2 8)) (Km := Km) (o := K.2 8) (by show 2 ≤ zinN K.2 8 0; rw [kn 0 (by decide)]; exact h0) (by show 0 < zinN K.2 8 12; omega) hK hKm (by rw [w9 12 0 0 (by first | decide | omega), fn 12 0 0 (by first | decide | omega)]; exact f0) e9 (by show 0 ≤ K.2 8 ∧ K.2 8 < zinN K.2 8 8; omega) hT1 hI1
    refine ⟨r, F', B', (K.1, zinN K.2 8), Fm', Bm', q1, q2, q3, Or.inr ⟨(by first | decide | omega), rfl⟩, fun c y k n => ?_, fun c y k x n => ?_, q6, q7, q8, q9⟩
    · rw [q4 c y k n, w9 c y k (by first | decide | omega), fn c y k (by first | decide | omega)]
    · rw [q5 c y k x n, bn c y k x (by first | decide | omega)]
  · rw [if_neg z]
    obtain ⟨r, F', B', Fm', Bm', q1, q2, q3, q4, q5, q6, q7, q8, q9⟩ := P_o18 (Km := Km) (o := F 12 0 9) h0 h12 hK hKm f0 rfl ⟨(by first | decide | omega), hI.1.1⟩ hT hI
    exact ⟨r, F', B', K, Fm', Bm', q1, q2, q3, Or.inl rfl, q4, q5, q6, q7, q8, q9⟩
end
end
section
section
/-! ===== texts written, each side by itself ===== -/
def tbA (T : List Int) (j : Nat) : Int := (T[j]?).getD 0
theorem tbA_l {T U : List Int} {j : Nat} (h : j < T.length) : tbA (T ++ U) j = tbA T j := by
  unfold tbA
  rw [List.getElem?_append_left h]
theorem tbA_r {T : List Int} {a : Int} : tbA (T ++ [a]) T.length = a := by
  unfold tbA
  rw [List.getElem?_append_right (Nat.le_refl _), Nat.sub_self]
  rfl
/-- the class's page holds the text T; all else as in q -/
def TC (q : zF × zB) (T : List Int) (F : zF) (B : zB) : Prop := ((T.length ≤ 20480 ∧ F 0 1 1 = T.length ∧ F 0 1 2 = 0 ∧ ∀ j : Nat, j < T.length → B 0 1 0 j = tbA T j % 256) ∨ (20480 < T.length ∧ F 0 1 1 = 20480 ∧ F 0 1 2 = 1)) ∧ (∀ c y k, ¬ (c = 0 ∧ y = 1 ∧ 1 ≤ k ∧ k ≤ 2) → F c y k = q.1 c y k) ∧ (∀ c y k x, ¬ (c = 0 ∧ y = 1 ∧ k = 0) → B c y k x = q.2 c y k x)
/-- what the reference wrote is the text T; all else as in q -/
def TM (q : zF × zB) (T : List Int) (F : zF) (B : zB) : Prop := (F 14 0 71 = T.length ∧ ∀ j : Nat, j < T.length → B 14 0 70 j % 256 = tbA T j % 256) ∧ (∀ c y k, ¬ (c = 14 ∧ y = 0 ∧ k = 71) → F c y k = q.1 c y k) ∧ (∀ c y k x, ¬ (c = 14 ∧ y = 0 ∧ k = 70) → B c y k x = q.2 c y k x)
theorem TC_s {q : zF × zB} {T : List Int} {F : zF} {B : zB} (h : TC q T F B) : TC (F, B) T F B := ⟨h.1, fun _ _ _ _ => rfl, fun _ _ _ _ _ => rfl⟩
theorem TM_s {q : zF × zB} {T : List Int} {F : zF} {B : zB} (h : TM q T F B) : TM (F, B) T F B := ⟨h.1, fun _ _ _ _ => rfl, fun _ _ _ _ _ => rfl⟩
theorem C_pt {K : zK} {q : zF × zB} {T : List Int} {a : Int} {F : zF} {B : zB} (h0 : 2 ≤ K.2 0) (h : TC q T F B) : ∃ F' B', f_ByteRow_put K 1 a F B = some (0, F', B') ∧ TC q (T ++ [a]) F' B' := by
  obtain ⟨hp, gF, gB⟩ := h
  have ln : ((lnC 0 1 0 : Nat) : Int) = 20480 := by decide
  have ll : (T ++ [a]).length = T.length + 1 := by rw [List.length_append]; rfl
  unfold f_ByteRow_put
  rw [ln]
  rcases hp with ⟨t1, t2, t3, t4⟩ | ⟨t1, t2, t3⟩
  · by_cases z : T.length < 20480
    · rw [t2, if_pos (by first | decide | omega), if_pos (by unfold r32; omega), if_pos (by decide), if_pos (by first | decide | omega), if_pos (by first | decide | omega), zand255]
      refine ⟨_, _, rfl, Or.inl ⟨(by first | decide | omega), ?_, ?_, fun j hj => ?_⟩, fun c y k n => ?_, fun c y k x n => ?_⟩
      · rw [zup3_v, if_pos (by first | decide | omega), ll]; omega
      · rw [zup3_v, if_neg (by first | decide | omega)]; exact t3
      · rw [zup4_v]
        by_cases y : j = T.length
        · rw [if_pos (by first | decide | omega), y, tbA_r]
        · rw [if_neg (by first | decide | omega), tbA_l (by first | decide | omega)]; exact t4 j (by first | decide | omega)
      · rw [zup3_v, if_neg (by first | decide | omega)]; exact gF c y k n
      · rw [zup4_v, if_neg (by first | decide | omega)]; exact gB c y k x n
    · rw [t2, if_pos (by first | decide | omega), if_pos (by unfold r32; omega), if_pos (by decide), if_neg (by first | decide | omega)]
      refine ⟨_, _, rfl, Or.inr ⟨(by first | decide | omega), ?_, ?_⟩, fun c y k n => ?_, gB⟩
      · rw [zup3_v, if_neg (by first | decide | omega), t2]; omega
      · rw [zup3_v, if_pos (by first | decide | omega)]
      · rw [zup3_v, if_neg (by first | decide | omega)]; exact gF c y k n
  · rw [t2, if_pos (by first | decide | omega), if_pos (by decide), if_pos (by decide), if_neg (by decide)]
    refine ⟨_, _, rfl, Or.inr ⟨(by first | decide | omega), ?_, ?_⟩, fun c y k n => ?_, gB⟩
    · rw [zup3_v, if_neg (by first | decide | omega), t2]
    · rw [zup3_v, if_pos (by first | decide | omega)]
    · rw [zup3_v, if_neg (by first | decide | omega)]; exact gF c y k n
theorem M_pt {Km : Nat} {q : zF × zB} {T : List Int} {a : Int} {F : zF} {B : zB} (hn : T.length < 30000) (h : TM q T F B) : ∃ F' B', f_M_put_0 Km a F B = some (0, F', B') ∧ TM q (T ++ [a]) F' B' := by
  obtain ⟨⟨t2, t4⟩, gF, gB⟩ := h
  have ll : (T ++ [a]).length = T.length + 1 := by rw [List.length_append]; rfl
  unfold f_M_put_0 f_M_put_0_20
  rw [t2, if_pos (by unfold r32; omega), if_neg (by first | decide | omega), if_pos (by first | decide | omega)]
  refine ⟨_, _, rfl, ⟨?_, fun j hj => ?_⟩, fun c y k n => ?_, fun c y k x n => ?_⟩
  · rw [zup3_v, if_pos (by first | decide | omega), ll]; omega
  · rw [zup4_v]
    by_cases y : j = T.length
    · rw [if_pos (by first | decide | omega), y, tbA_r, zi2b_m]
    · rw [if_neg (by first | decide | omega), tbA_l (by first | decide | omega)]; exact t4 j (by first | decide | omega)
  · rw [zup3_v, if_neg (by first | decide | omega)]; exact gF c y k n
  · rw [zup4_v, if_neg (by first | decide | omega)]; exact gB c y k x n
/-- a string's letters from k on, d of them -/
def strT (s : Nat) : Nat → Int → List Int
  | 0, _ => []
  | d + 1, k => zsc s k :: strT s d (k + 1)
theorem C_txs {K : zK} {q : zF × zB} {s : Nat} (h0 : 2 ≤ K.2 0) (hs : s < strL.length) (hz : zshr (zsl s) 0 = zsl s) (hl : zsl s ≤ 100) : ∀ (d m : Nat) (k : Int) (T : List Int) (F : zF) (B : zB), k + d = zsl s → 0 ≤ k → d < m → TC q T F B → ∃ F' B', f_ByteRow_putText_2 K m k 1 s F B = some (0, F', B') ∧ TC q (T ++ strT s d k) F' B' := by
  intro d
  induction d with
  | zero =>
    intro m k T F B e k0 hm h
    obtain ⟨p, rfl⟩ : ∃ p, m = p + 1 := ⟨m - 1, (by first | decide | omega)⟩
    have : k = zsl s := by omega
    subst this
    exact ⟨F, B, C_txtE p hs hz (by first | decide | omega), by rw [strT, List.append_nil]; exact h⟩
  | succ d ih =>
    intro m k T F B e k0 hm h
    obtain ⟨p, rfl⟩ : ∃ p, m = p + 1 := ⟨m - 1, (by first | decide | omega)⟩
    obtain ⟨F1, B1, e1, w1⟩ := C_pt (a := zsc s k) h0 h
    obtain ⟨F2, B2, e2, w2⟩ := ih p (k + 1) _ F1 B1 (by first | decide | omega) (by first | decide | omega) (by first | decide | omega) w1
    refine ⟨F2, B2, ?_, ?_⟩
    · rw [C_txt h0 p hs hz k0 (by first | decide | omega) (by first | decide | omega), e1, zb_s, e2]
    · rw [List.append_assoc] at w2; exact w2
theorem M_txs {Km : Nat} {q : zF × zB} {s : Nat} (hs : s < strL.length) (hz : zshr (zsl s) 0 = zsl s) (hl : zsl s ≤ 100) : ∀ (d m : Nat) (k : Int) (T : List Int) (F : zF) (B : zB), k + d = zsl s → 0 ≤ k → d < m → T.length + d < 30000 → TM q T F B → ∃ F' B', f_M_put_1_2 Km m k s F B = some (0, F', B') ∧ TM q (T ++ strT s d k) F' B' := by
  intro d
  induction d with
  | zero =>
    intro m k T F B e k0 hm hn h
    obtain ⟨p, rfl⟩ : ∃ p, m = p + 1 := ⟨m - 1, (by first | decide | omega)⟩
    have : k = zsl s := by omega
    subst this
    exact ⟨F, B, L_txtE p hs hz (by first | decide | omega), by rw [strT, List.append_nil]; exact h⟩
  | succ d ih =>
    intro m k T F B e k0 hm hn h
    obtain ⟨p, rfl⟩ : ∃ p, m = p + 1 := ⟨m - 1, (by first | decide | omega)⟩
    obtain ⟨F1, B1, e1, w1⟩ := M_pt (Km := Km) (a := zsc s k) (by first | decide | omega) h
    obtain ⟨F2, B2, e2, w2⟩ := ih p (k + 1) _ F1 B1 (by first | decide | omega) (by first | decide | omega) (by first | decide | omega) (by rw [List.length_append]; simp; omega) w1
    refine ⟨F2, B2, ?_, ?_⟩
    · rw [L_txt p hs hz k0 (by first | decide | omega) (by first | decide | omega), e1, zb_s, e2]
    · rw [List.append_assoc] at w2; exact w2
/-- a whole string, its letters given -/
theorem C_strg {K : zK} {q : zF × zB} {s : Nat} {T U : List Int} {F : zF} {B : zB} (h0 : 2 ≤ K.2 0) (hK : 200 ≤ K.1) (hs : s < strL.length) (hl : 0 ≤ zsl s ∧ zsl s ≤ 100) (hz : zshr (zsl s) 0 = zsl s) (e : strT s (zsl s).toNat 0 = U) (h : TC q T F B) : ∃ F' B', f_ByteRow_putText K 1 s F B = some (0, F', B') ∧ TC q (T ++ U) F' B' := by
  obtain ⟨F', B', e1, w⟩ := C_txs h0 hs hz hl.2 (zsl s).toNat K.1 0 T F B (by first | decide | omega) (by first | decide | omega) (by first | decide | omega) h
  rw [e] at w
  exact ⟨F', B', e1, w⟩
theorem M_strg {Km : Nat} {q : zF × zB} {s : Nat} {T U : List Int} {F : zF} {B : zB} (hK : 200 ≤ Km) (hs : s < strL.length) (hl : 0 ≤ zsl s ∧ zsl s ≤ 100) (hz : zshr (zsl s) 0 = zsl s) (e : strT s (zsl s).toNat 0 = U) (hn : T.length < 20000) (h : TM q T F B) : ∃ F' B', f_M_put_1 Km s F B = some (0, F', B') ∧ TM q (T ++ U) F' B' := by
  obtain ⟨F', B', e1, w⟩ := M_txs (Km := Km) hs hz hl.2 (zsl s).toNat Km 0 T F B (by first | decide | omega) (by first | decide | omega) (by first | decide | omega) (by first | decide | omega) h
  rw [e] at w
  exact ⟨F', B', e1, w⟩
/-- decimal digits -/
def decT (v : Int) : List Int := if v < 10 then [48 + v % 10] else if v < 100 then [48 + v / 10 % 10, 48 + v % 10] else [48 + v / 100 % 10, 48 + v / 10 % 10, 48 + v % 10]
theorem zdv1 {v : Int} (h : 0 ≤ v ∧ v < 1000) {p : Int} (hp : 0 < p ∧ p ≤ 1000) : zdv v p = v / p := zdv_e h.1 (by unfold r32; omega) hp.1 (by unfold r32; omega)
theorem zrm1 {v : Int} (h : 0 ≤ v ∧ v < 1000) : zrm v 10 = v % 10 := zrm_e h.1 (by unfold r32; omega) (by decide) (by decide)
theorem C_d31 {K : zK} {q : zF × zB} {T : List Int} {v l p : Int} {m : Nat} {F : zF} {B : zB} (h0 : 2 ≤ K.2 0) (hv : 0 ≤ v ∧ v < 1000) (hl : 0 ≤ l ∧ l < 5) (hp : p = 1 ∨ p = 10 ∨ p = 100) (h : TC q T F B) : ∃ F' B', f_ByteRow_putDecimal_31 K (m + 1) l p 1 v F B = f_ByteRow_putDecimal_31 K m (l + 1) (p / 10) 1 v F' B' ∧ TC q (T ++ [48 + v / p % 10]) F' B' := by
  have vp : 0 ≤ v / p ∧ v / p < 1000 := by rcases hp with rfl | rfl | rfl <;> omega
  obtain ⟨F1, B1, e1, w1⟩ := C_pt (a := 48 + v / p % 10) h0 h
  refine ⟨F1, B1, ?_, w1⟩
  rw [f_ByteRow_putDecimal_31, if_pos (by unfold r32; omega), if_neg (by first | decide | omega), if_pos (by unfold r32; omega), if_neg (by first | decide | omega), if_pos (iI_n0 (by first | decide | omega) (by unfold r32; omega)), if_pos (by first | decide | omega), zdv1 hv (by first | decide | omega), zrm1 vp, e1, zb_s, zdv1 (by first | decide | omega) (by first | decide | omega)]
theorem C_d0 {K : zK} {v l : Int} {m : Nat} {F : zF} {B : zB} (hl : 0 ≤ l ∧ l < 5) : f_ByteRow_putDecimal_31 K (m + 1) l 0 1 v F B = some (0, F, B) := by
  rw [f_ByteRow_putDecimal_31, if_pos (by unfold r32; omega), if_neg (by first | decide | omega), if_pos (by decide), if_pos (by decide), f_ByteRow_putDecimal_65]
theorem C_dec {K : zK} {q : zF × zB} {T : List Int} {v : Int} {F : zF} {B : zB} (h0 : 2 ≤ K.2 0) (hK : 200 ≤ K.1) (hv : 0 ≤ v ∧ v < 1000) (h : TC q T F B) : ∃ F' B', f_ByteRow_putDecimal K 1 v F B = some (0, F', B') ∧ TC q (T ++ decT v) F' B' := by
  obtain ⟨m, em⟩ : ∃ m, K.1 = m + 1 + 1 + 1 + 1 := ⟨K.1 - 4, (by first | decide | omega)⟩
  have e4 : ∀ (j : Nat) (l p : Int), 0 ≤ l → l < 5 → (p = 1 ∨ p = 10 ∨ p = 100) → f_ByteRow_putDecimal_4 K (j + 1) l p 1 v F B = if v / p < 10 then f_ByteRow_putDecimal_29 K p 1 v F B else f_ByteRow_putDecimal_4 K j (l + 1) (p * 10) 1 v F B := fun j l p l0 l1 hp => by
    have vp : 0 ≤ v / p ∧ v / p < 1000 := by rcases hp with rfl | rfl | rfl <;> omega
    rw [f_ByteRow_putDecimal_4, if_pos (by unfold r32; omega), if_neg (by first | decide | omega), if_pos (iI_n0 (by first | decide | omega) (by unfold r32; omega)), zdv1 hv (by first | decide | omega), if_pos (by unfold r32; omega)]
  have e0 : f_ByteRow_putDecimal K 1 v F B = f_ByteRow_putDecimal_4 K K.1 0 1 1 v F B := rfl
  have e29 : ∀ p, f_ByteRow_putDecimal_29 K p 1 v F B = f_ByteRow_putDecimal_31 K (m + 1 + 1 + 1 + 1) 0 p 1 v F B := fun p => by
    unfold f_ByteRow_putDecimal_29; rw [em]
  rw [e0, em]
  unfold decT
  by_cases z1 : v < 10
  · obtain ⟨F1, B1, a1, w1⟩ := C_d31 (m := m + 1 + 1 + 1) (l := 0) (p := 1) h0 hv (by decide) (Or.inl rfl) h
    rw [e4 _ 0 1 (by decide) (by decide) (Or.inl rfl), if_pos (by first | decide | omega), e29, a1, show (1 : Int) / 10 = 0 from rfl, C_d0 (by decide), if_pos z1]
    rw [show v / 1 % 10 = v % 10 by omega] at w1
    exact ⟨F1, B1, rfl, w1⟩
  · rw [e4 _ 0 1 (by decide) (by decide) (Or.inl rfl), if_neg (by first | decide | omega), show (1 : Int) * 10 = 10 from rfl, if_neg z1]
    by_cases z2 : v < 100
    · obtain ⟨F1, B1, a1, w1⟩ := C_d31 (m := m + 1 + 1 + 1) (l := 0) (p := 10) h0 hv (by decide) (Or.inr (Or.inl rfl)) h
      obtain ⟨F2, B2, a2, w2⟩ := C_d31 (m := m + 1 + 1) (l := 0 + 1) (p := 1) h0 hv (by decide) (Or.inl rfl) w1
      rw [e4 _ (0 + 1) 10 (by decide) (by decide) (Or.inr (Or.inl rfl)), if_pos (by first | decide | omega), e29, a1, show (10 : Int) / 10 = 1 from rfl, a2, show (1 : Int) / 10 = 0 from rfl, C_d0 (by decide), if_pos z2]
      rw [show v / 1 % 10 = v % 10 by omega, List.append_assoc] at w2
      exact ⟨F2, B2, rfl, w2⟩
    · obtain ⟨F1, B1, a1, w1⟩ := C_d31 (m := m + 1 + 1 + 1) (l := 0) (p := 100) h0 hv (by decide) (Or.inr (Or.inr rfl)) h
      obtain ⟨F2, B2, a2, w2⟩ := C_d31 (m := m + 1 + 1) (l := 0 + 1) (p := 10) h0 hv (by decide) (Or.inr (Or.inl rfl)) w1
      obtain ⟨F3, B3, a3, w3⟩ := C_d31 (m := m + 1) (l := 0 + 1 + 1) (p := 1) h0 hv (by decide) (Or.inl rfl) w2
      rw [e4 _ (0 + 1) 10 (by decide) (by decide) (Or.inr (Or.inl rfl)), if_neg (by first | decide | omega), show (10 : Int) * 10 = 100 from rfl, e4 _ (0 + 1 + 1) 100 (by decide) (by decide) (Or.inr (Or.inr rfl)), if_pos (by first | decide | omega), e29, a1, show (100 : Int) / 10 = 10 from rfl, a2, show (10 : Int) / 10 = 1 from rfl, a3, show (1 : Int) / 10 = 0 from rfl, C_d0 (by decide), if_neg z2]
      rw [show v / 1 % 10 = v % 10 by omega, List.append_assoc, List.append_assoc] at w3
      exact ⟨F3, B3, rfl, w3⟩
theorem M_d18 {Km : Nat} {q : zF × zB} {T : List Int} {v p : Int} {m : Nat} {F : zF} {B : zB} (hv : 0 ≤ v ∧ v < 1000) (hp : p = 1 ∨ p = 10 ∨ p = 100) (hn : T.length < 30000) (h : TM q T F B) : ∃ F' B', f_M_digits_18 Km (m + 1) p v F B = f_M_digits_18 Km m (p / 10) v F' B' ∧ TM q (T ++ [48 + v / p % 10]) F' B' := by
  have vp : 0 ≤ v / p ∧ v / p < 1000 := by rcases hp with rfl | rfl | rfl <;> omega
  obtain ⟨F1, B1, e1, w1⟩ := M_pt (Km := Km) (a := 48 + v / p % 10) hn h
  refine ⟨F1, B1, ?_, w1⟩
  rw [f_M_digits_18, if_pos (by unfold r32; omega), if_neg (by first | decide | omega), if_pos (iI_n0 (by first | decide | omega) (by unfold r32; omega)), zdv1 hv (by first | decide | omega), zrm1 vp, e1, zb_s, zdv1 (by first | decide | omega) (by first | decide | omega)]
theorem M_d0 {Km : Nat} {v : Int} {m : Nat} {F : zF} {B : zB} : f_M_digits_18 Km (m + 1) 0 v F B = some (0, F, B) := by
  rw [f_M_digits_18, if_pos (by decide), if_pos (by decide)]
theorem M_dec {Km : Nat} {q : zF × zB} {T : List Int} {v : Int} {F : zF} {B : zB} (hK : 200 ≤ Km) (hv : 0 ≤ v ∧ v < 1000) (hn : T.length < 20000) (h : TM q T F B) : ∃ F' B', f_M_digits Km v F B = some (0, F', B') ∧ TM q (T ++ decT v) F' B' := by
  obtain ⟨m, em⟩ : ∃ m, Km = m + 1 + 1 + 1 + 1 := ⟨Km - 4, (by first | decide | omega)⟩
  have ll : ∀ (U : List Int) (a : Int), (U ++ [a]).length = U.length + 1 := fun U a => by rw [List.length_append]; rfl
  have e4 : ∀ (j : Nat) (p : Int), (p = 1 ∨ p = 10 ∨ p = 100) → f_M_digits_2 Km (j + 1) p v F B = if v / p ≤ 9 then f_M_digits_18 Km Km p v F B else f_M_digits_2 Km j (p * 10) v F B := fun j p hp => by
    have vp : 0 ≤ v / p ∧ v / p < 1000 := by rcases hp with rfl | rfl | rfl <;> omega
    rw [f_M_digits_2, if_pos (iI_n0 (by first | decide | omega) (by unfold r32; omega)), zdv1 hv (by first | decide | omega), if_pos (by unfold r32; omega)]
  have e0 : ∀ i, i = m + 1 + 1 + 1 + 1 → f_M_digits Km v F B = f_M_digits_2 Km i 1 v F B := fun i ei => by rw [ei, ← em]; rfl
  have e18 : ∀ i p, i = m + 1 + 1 + 1 + 1 → f_M_digits_18 Km Km p v F B = f_M_digits_18 Km i p v F B := fun i p ei => by rw [ei, ← em]
  rw [e0 _ rfl]
  unfold decT
  by_cases z1 : v < 10
  · obtain ⟨F1, B1, a1, w1⟩ := M_d18 (Km := Km) (m := m + 1 + 1 + 1) (p := 1) hv (Or.inl rfl) (by first | decide | omega) h
    rw [e4 _ 1 (Or.inl rfl), if_pos (by first | decide | omega), e18 _ _ rfl, a1, show (1 : Int) / 10 = 0 from rfl, M_d0, if_pos z1]
    rw [show v / 1 % 10 = v % 10 by omega] at w1
    exact ⟨F1, B1, rfl, w1⟩
  · rw [e4 _ 1 (Or.inl rfl), if_neg (by first | decide | omega), show (1 : Int) * 10 = 10 from rfl, if_neg z1]
    by_cases z2 : v < 100
    · obtain ⟨F1, B1, a1, w1⟩ := M_d18 (Km := Km) (m := m + 1 + 1 + 1) (p := 10) hv (Or.inr (Or.inl rfl)) (by first | decide | omega) h
      obtain ⟨F2, B2, a2, w2⟩ := M_d18 (Km := Km) (m := m + 1 + 1) (p := 1) hv (Or.inl rfl) (by rw [ll]; omega) w1
      rw [e4 _ 10 (Or.inr (Or.inl rfl)), if_pos (by first | decide | omega), e18 _ _ rfl, a1, show (10 : Int) / 10 = 1 from rfl, a2, show (1 : Int) / 10 = 0 from rfl, M_d0, if_pos z2]
      rw [show v / 1 % 10 = v % 10 by omega, List.append_assoc] at w2
      exact ⟨F2, B2, rfl, w2⟩
    · obtain ⟨F1, B1, a1, w1⟩ := M_d18 (Km := Km) (m := m + 1 + 1 + 1) (p := 100) hv (Or.inr (Or.inr rfl)) (by first | decide | omega) h
      obtain ⟨F2, B2, a2, w2⟩ := M_d18 (Km := Km) (m := m + 1 + 1) (p := 10) hv (Or.inr (Or.inl rfl)) (by rw [ll]; omega) w1
      obtain ⟨F3, B3, a3, w3⟩ := M_d18 (Km := Km) (m := m + 1) (p := 1) hv (Or.inl rfl) (by rw [ll, ll]; omega) w2
      rw [e4 _ 10 (Or.inr (Or.inl rfl)), if_neg (by first | decide | omega), show (10 : Int) * 10 = 100 from rfl, e4 _ 100 (Or.inr (Or.inr rfl)), if_pos (by first | decide | omega), e18 _ _ rfl, a1, show (100 : Int) / 10 = 10 from rfl, a2, show (10 : Int) / 10 = 1 from rfl, a3, show (1 : Int) / 10 = 0 from rfl, M_d0, if_neg z2]
      rw [show v / 1 % 10 = v % 10 by omega, List.append_assoc, List.append_assoc] at w3
      exact ⟨F3, B3, rfl, w3⟩
end
end
section
section
/-! ===== the text of a note ===== -/
def rptT (c : Int) : Nat → List Int
  | 0 => []
  | d + 1 => c :: rptT c d
def pitT (s a : Int) : List Int := zsc 47 (s % 7) :: (rptT (if 0 < a then 35 else 98) (if 0 < a then a else -a).toNat ++ [48 + s / 7])
def chT (st al : Int → Int) : Nat → Int → List Int
  | 0, _ => []
  | d + 1, k => (if 0 < k then [32] else []) ++ (pitT (st k) (al k) ++ chT st al d (k + 1))
/-- a note but for what comes behind its points -/
def ntA (m : Int) (st al : Int → Int) (v : Int) : List Int := (if m = 0 then [114] else []) ++ ((if 1 < m then [60] else []) ++ (chT st al m.toNat 0 ++ ((if 1 < m then [62] else []) ++ (58 :: (decT (zshl 1 (v / 3)) ++ rptT 46 (2 - v % 3).toNat)))))
theorem rptT_s {c : Int} {T : List Int} {d : Nat} : T ++ rptT c (d + 1) = (T ++ [c]) ++ rptT c d := by
  rw [List.append_assoc]; rfl
theorem letK : ∀ k : Fin 7, zsc 20 (k.val : Int) = zsc 47 (k.val : Int) := by decide +kernel
theorem letE {k : Int} (h0 : 0 ≤ k) (h1 : k < 7) : zsc 20 k = zsc 47 k := by
  have := letK ⟨k.toNat, (by first | decide | omega)⟩
  rwa [show (((⟨k.toNat, (by first | decide | omega)⟩ : Fin 7).val : Nat) : Int) = k by show ((k.toNat : Nat) : Int) = k; omega] at this
theorem C_wp20 {K : zK} {q : zF × zB} {s a : Int} (h0 : 2 ≤ K.2 0) (h7 : 0 < K.2 7) (q1 : q.1 7 0 1 = 1) (hs : 0 ≤ s ∧ s ≤ 62) (ha : -7 ≤ a ∧ a ≤ 7) : ∀ (d n : Nat) (k : Int) (T : List Int) (F : zF) (B : zB), k + d = (if 0 < a then a else -a) → 0 ≤ k → d < n → TC q T F B → ∃ F' B', f_Scribe_writePitch_20 K n k 0 s a F B = some (0, F', B') ∧ TC q (T ++ (rptT (if 0 < a then 35 else 98) d ++ [48 + s / 7])) F' B' := by
  have za : zabs a = (if 0 < a then a else -a) := by unfold zabs; split <;> split <;> omega
  have zb : r32 (zabs a) := by rw [za]; unfold r32; split <;> omega
  have zd : zdv s 7 = s / 7 := zdv_e hs.1 (by unfold r32; omega) (by decide) (by decide)
  intro d
  induction d with
  | zero =>
    intro n k T F B e k0 hn h
    obtain ⟨p, rfl⟩ : ∃ p, n = p + 1 := ⟨n - 1, (by first | decide | omega)⟩
    have f1 : F 7 0 1 = 1 := by rw [h.2.1 7 0 1 (by first | decide | omega)]; exact q1
    obtain ⟨F1, B1, e1, w1⟩ := C_pt (a := 48 + s / 7) h0 h
    refine ⟨F1, B1, ?_, w1⟩
    rw [f_Scribe_writePitch_20, if_pos (by unfold r32; omega), if_pos (by unfold r32; split at e <;> omega), if_pos zb, if_pos (by rw [za]; omega), if_pos ⟨(by first | decide | omega), h7⟩, f1, if_pos (by first | decide | omega), zd, e1, zb_s]
  | succ d ih =>
    intro n k T F B e k0 hn h
    obtain ⟨p, rfl⟩ : ∃ p, n = p + 1 := ⟨n - 1, (by first | decide | omega)⟩
    have f1 : F 7 0 1 = 1 := by rw [h.2.1 7 0 1 (by first | decide | omega)]; exact q1
    obtain ⟨F1, B1, e1, w1⟩ := C_pt (a := if 0 < a then 35 else 98) h0 h
    obtain ⟨F2, B2, e2, w2⟩ := ih p (k + 1) _ F1 B1 (by first | decide | omega) (by first | decide | omega) (by first | decide | omega) w1
    refine ⟨F2, B2, ?_, ?_⟩
    · rw [f_Scribe_writePitch_20, if_pos (by unfold r32; omega), if_pos (by unfold r32; split at e <;> omega), if_pos zb, if_neg (by rw [za]; omega), if_pos ⟨(by first | decide | omega), h7⟩, f1]
      by_cases z : a ≤ 0
      · rw [if_neg (by first | decide | omega)] at e1
        rw [if_pos z, f_Scribe_writePitch_43, if_pos (by first | decide | omega), e1, zb_s]
        exact e2
      · rw [if_pos (by first | decide | omega)] at e1
        rw [if_neg z, f_Scribe_writePitch_43, if_pos (by first | decide | omega), e1, zb_s]
        exact e2
    · rw [List.append_assoc] at w2
      exact w2
theorem C_wp {K : zK} {q : zF × zB} {s a : Int} {T : List Int} {F : zF} {B : zB} (h0 : 2 ≤ K.2 0) (h7 : 0 < K.2 7) (hK : 200 ≤ K.1) (q1 : q.1 7 0 1 = 1) (hs : 0 ≤ s ∧ s ≤ 62) (ha : -7 ≤ a ∧ a ≤ 7) (h : TC q T F B) : ∃ F' B', f_Scribe_writePitch K 0 s a F B = some (0, F', B') ∧ TC q (T ++ pitT s a) F' B' := by
  have f1 : F 7 0 1 = 1 := by rw [h.2.1 7 0 1 (by first | decide | omega)]; exact q1
  have l20 : zsl 20 = 7 := by decide
  obtain ⟨F1, B1, e1, w1⟩ := C_pt (a := zsc 47 (s % 7)) h0 h
  obtain ⟨F2, B2, e2, w2⟩ := C_wp20 h0 h7 q1 hs ha (if 0 < a then a else -a).toNat K.1 0 _ F1 B1 (by split <;> omega) (by first | decide | omega) (by split <;> omega) w1
  refine ⟨F2, B2, ?_, ?_⟩
  · unfold f_Scribe_writePitch
    rw [if_pos ⟨(by first | decide | omega), h7⟩, f1, if_pos (by first | decide | omega), C_fm hs.1 hs.2, zb_s, C_schar (by decide) (by first | decide | omega) (by first | decide | omega) (by first | decide | omega), zb_s, letE (by first | decide | omega) (by first | decide | omega), e1, zb_s]
    exact e2
  · rw [List.append_assoc] at w2
    exact w2
theorem C_wn46 {K : zK} {q : zF × zB} {m v g : Int} {st al : Int → Int} (h0 : 2 ≤ K.2 0) (h7 : 0 < K.2 7) (h1 : 0 < K.2 1) (hK : 200 ≤ K.1) (q1 : q.1 7 0 1 = 1) (q4 : q.1 7 0 4 = 0) (q10 : q.1 1 0 10 = m) (hm : 0 ≤ m ∧ m ≤ 6) (hp : ∀ k, 0 ≤ k → k < m → q.2 1 0 12 k = st k ∧ q.2 1 0 13 k = al k ∧ (0 ≤ st k ∧ st k ≤ 62) ∧ (-7 ≤ al k ∧ al k ≤ 7)) : ∀ (d n : Nat) (k : Int) (T : List Int) (F : zF) (B : zB), k + d = m → 0 ≤ k → d < n → TC q T F B → ∃ F' B', f_Scribe_writeNote_46 K n k 0 v g F B = f_Scribe_writeNote_125 K 0 v g 1 (if m ≤ 1 then 18 else 17) F' B' ∧ TC q (T ++ chT st al d k) F' B' := by
  intro d
  induction d with
  | zero =>
    intro n k T F B e k0 hn h
    obtain ⟨p, rfl⟩ : ∃ p, n = p + 1 := ⟨n - 1, (by first | decide | omega)⟩
    have f1 : F 7 0 1 = 1 := by rw [h.2.1 7 0 1 (by first | decide | omega)]; exact q1
    have f4 : F 7 0 4 = 0 := by rw [h.2.1 7 0 4 (by first | decide | omega)]; exact q4
    have f10 : F 1 0 10 = m := by rw [h.2.1 1 0 10 (by first | decide | omega)]; exact q10
    refine ⟨F, B, ?_, by rw [chT, List.append_nil]; exact h⟩
    rw [f_Scribe_writeNote_46, if_pos ⟨(by first | decide | omega), h7⟩, f4, if_pos ⟨(by first | decide | omega), h1⟩, if_pos (by unfold r32; omega), f10, if_pos (by unfold r32; omega), if_pos (by first | decide | omega), f1]
    by_cases z : m ≤ 1
    · rw [if_pos z, if_pos z]
    · rw [if_neg z, if_neg z]
  | succ d ih =>
    intro n k T F B e k0 hn h
    obtain ⟨p, rfl⟩ : ∃ p, n = p + 1 := ⟨n - 1, (by first | decide | omega)⟩
    have f1 : F 7 0 1 = 1 := by rw [h.2.1 7 0 1 (by first | decide | omega)]; exact q1
    have f4 : F 7 0 4 = 0 := by rw [h.2.1 7 0 4 (by first | decide | omega)]; exact q4
    have f10 : F 1 0 10 = m := by rw [h.2.1 1 0 10 (by first | decide | omega)]; exact q10
    obtain ⟨p1, p2, p3, p4⟩ := hp k k0 (by first | decide | omega)
    obtain ⟨F1, B1, e1, w1⟩ : ∃ F1 B1, f_ByteRow_putText K 1 (if k ≤ 0 then 15 else 16) F B = some (0, F1, B1) ∧ TC q (T ++ (if 0 < k then [32] else [])) F1 B1 := by
      by_cases z : k ≤ 0
      · rw [if_pos z, if_neg (by first | decide | omega)]
        exact C_strg h0 hK (by decide) (by decide) (by decide) (by decide) h
      · rw [if_neg z, if_pos (by first | decide | omega)]
        exact C_strg h0 hK (by decide) (by decide) (by decide) (by decide) h
    have g4 : F1 7 0 4 = 0 := by rw [w1.2.1 7 0 4 (by first | decide | omega)]; exact q4
    obtain ⟨F2, B2, e2, w2⟩ := C_wp h0 h7 hK q1 p3 p4 w1
    obtain ⟨F3, B3, e3, w3⟩ := ih p (k + 1) _ F2 B2 (by first | decide | omega) (by first | decide | omega) (by first | decide | omega) w2
    refine ⟨F3, B3, ?_, ?_⟩
    · have e72 : f_Scribe_writeNote_72 (f_Scribe_writeNote_46 K p) K k 0 v g 1 (if k ≤ 0 then 15 else 16) F B = f_Scribe_writeNote_46 K p (k + 1) 0 v g F2 B2 := by
        unfold f_Scribe_writeNote_72
        rw [if_pos (by first | decide | omega), e1, zb_s, if_pos ⟨(by first | decide | omega), h7⟩, g4, if_pos ⟨(by first | decide | omega), h1⟩, if_pos (by first | decide | omega), w1.2.2 1 0 12 k (by first | decide | omega), w1.2.2 1 0 13 k (by first | decide | omega), p1, p2, e2, zb_s]
      rw [f_Scribe_writeNote_46, if_pos ⟨(by first | decide | omega), h7⟩, f4, if_pos ⟨(by first | decide | omega), h1⟩, if_pos (by unfold r32; omega), f10, if_pos (by unfold r32; omega), if_neg (by first | decide | omega), f1]
      rw [← e3, ← e72]
      by_cases z : k ≤ 0
      · rw [if_pos z, if_pos z]
      · rw [if_neg z, if_neg z]
    · rw [List.append_assoc, List.append_assoc] at w3
      exact w3
/-- the points, then what comes behind -/
theorem C_wn142 {K : zK} {q : zF × zB} {m v g : Int} (h0 : 2 ≤ K.2 0) (h7 : 0 < K.2 7) (h1 : 0 < K.2 1) (hK : 200 ≤ K.1) (q1 : q.1 7 0 1 = 1) (q4 : q.1 7 0 4 = 0) (q10 : q.1 1 0 10 = m) (hm : 0 ≤ m ∧ m ≤ 6) (hv : 0 ≤ v ∧ v < 24) (hg : g = 0 ∨ g = 1) : ∀ (d n : Nat) (k : Int) (T : List Int) (F : zF) (B : zB), k + d = 2 - v % 3 → 0 ≤ k → d < n → TC q T F B → ∃ F' B', f_Scribe_writeNote_142 K n k 0 v g F B = some (0, F', B') ∧ TC q (T ++ (rptT 46 d ++ ((if g = 1 ∧ ¬ m = 0 then [126] else []) ++ [32]))) F' B' := by
  have zr : zrm v 3 = v % 3 := zrm_e hv.1 (by unfold r32; omega) (by decide) (by decide)
  intro d
  induction d with
  | zero =>
    intro n k T F B e k0 hn h
    obtain ⟨p, rfl⟩ : ∃ p, n = p + 1 := ⟨n - 1, (by first | decide | omega)⟩
    have f1 : F 7 0 1 = 1 := by rw [h.2.1 7 0 1 (by first | decide | omega)]; exact q1
    have f4 : F 7 0 4 = 0 := by rw [h.2.1 7 0 4 (by first | decide | omega)]; exact q4
    have f10 : F 1 0 10 = m := by rw [h.2.1 1 0 10 (by first | decide | omega)]; exact q10
    obtain ⟨F1, B1, e1, w1⟩ : ∃ F1 B1, f_ByteRow_putText K 1 (if g = 1 ∧ ¬ m = 0 then 19 else 16) F B = some (0, F1, B1) ∧ TC q (T ++ ((if g = 1 ∧ ¬ m = 0 then [126] else []) ++ [32])) F1 B1 := by
      by_cases z : g = 1 ∧ ¬ m = 0
      · rw [if_pos z, if_pos z]
        exact C_strg h0 hK (by decide) (by decide) (by decide) (by decide) h
      · rw [if_neg z, if_neg z]
        exact C_strg h0 hK (by decide) (by decide) (by decide) (by decide) h
    refine ⟨F1, B1, ?_, w1⟩
    have e191 : f_Scribe_writeNote_191 K 1 (if g = 1 ∧ ¬ m = 0 then 19 else 16) F B = some (0, F1, B1) := by
      unfold f_Scribe_writeNote_191
      rw [if_pos (by first | decide | omega), e1, zb_s]
    rw [f_Scribe_writeNote_142, if_pos (by unfold r32; omega), zr, if_pos (by unfold r32; omega), if_pos (by first | decide | omega), if_pos ⟨(by first | decide | omega), h7⟩, if_pos (by unfold r32; omega), f1, f4, ← e191]
    unfold f_Scribe_writeNote_189
    by_cases z : g = 0
    · rw [if_pos z, if_neg (by first | decide | omega)]
    · rw [if_neg z, if_pos (by first | decide | omega), if_pos ⟨(by first | decide | omega), h1⟩]
      unfold f_Event_isRest f_Event_isRest_12
      rw [if_pos ⟨(by first | decide | omega), h1⟩, f10, if_pos (by unfold r32; omega)]
      by_cases y : m = 0
      · rw [if_pos y, if_pos (by first | decide | omega), zb_s, if_pos (by decide), if_neg (by decide), if_neg (by first | decide | omega)]
      · rw [if_neg y, if_pos (by first | decide | omega), zb_s, if_pos (by decide), if_pos rfl, if_pos (by first | decide | omega)]
  | succ d ih =>
    intro n k T F B e k0 hn h
    obtain ⟨p, rfl⟩ : ∃ p, n = p + 1 := ⟨n - 1, (by first | decide | omega)⟩
    have f1 : F 7 0 1 = 1 := by rw [h.2.1 7 0 1 (by first | decide | omega)]; exact q1
    obtain ⟨F1, B1, e1, w1⟩ := C_pt (a := 46) h0 h
    obtain ⟨F2, B2, e2, w2⟩ := ih p (k + 1) _ F1 B1 (by first | decide | omega) (by first | decide | omega) (by first | decide | omega) w1
    refine ⟨F2, B2, ?_, ?_⟩
    · rw [f_Scribe_writeNote_142, if_pos (by unfold r32; omega), zr, if_pos (by unfold r32; omega), if_neg (by first | decide | omega), if_pos ⟨(by first | decide | omega), h7⟩, f1, if_pos (by first | decide | omega), e1, zb_s]
      exact e2
    · rw [List.append_assoc] at w2
      exact w2
theorem sh7 : ∀ k : Fin 24, zshl 1 (zdv (k.val : Int) 3) = zshl 1 ((k.val : Int) / 3) ∧ 0 ≤ zshl 1 ((k.val : Int) / 3) ∧ zshl 1 ((k.val : Int) / 3) < 1000 := by decide +kernel
theorem sh7e {v : Int} (h0 : 0 ≤ v) (h1 : v < 24) : zshl 1 (zdv v 3) = zshl 1 (v / 3) ∧ 0 ≤ zshl 1 (v / 3) ∧ zshl 1 (v / 3) < 1000 := by
  have := sh7 ⟨v.toNat, (by first | decide | omega)⟩
  rwa [show (((⟨v.toNat, (by first | decide | omega)⟩ : Fin 24).val : Nat) : Int) = v by show ((v.toNat : Nat) : Int) = v; omega] at this
theorem C_wn {K : zK} {q : zF × zB} {m v g : Int} {st al : Int → Int} {T : List Int} {F : zF} {B : zB} (h0 : 2 ≤ K.2 0) (h7 : 0 < K.2 7) (h1 : 0 < K.2 1) (hK : 200 ≤ K.1) (q1 : q.1 7 0 1 = 1) (q4 : q.1 7 0 4 = 0) (q10 : q.1 1 0 10 = m) (hm : 0 ≤ m ∧ m ≤ 6) (hp : ∀ k, 0 ≤ k → k < m → q.2 1 0 12 k = st k ∧ q.2 1 0 13 k = al k ∧ (0 ≤ st k ∧ st k ≤ 62) ∧ (-7 ≤ al k ∧ al k ≤ 7)) (hv : 0 ≤ v ∧ v < 24) (hg : g = 0 ∨ g = 1) (h : TC q T F B) : ∃ F' B', f_Scribe_writeNote K 0 v g F B = some (0, F', B') ∧ TC q (T ++ (ntA m st al v ++ ((if g = 1 ∧ ¬ m = 0 then [126] else []) ++ [32]))) F' B' := by
  have f4 : F 7 0 4 = 0 := by rw [h.2.1 7 0 4 (by first | decide | omega)]; exact q4
  have f10 : F 1 0 10 = m := by rw [h.2.1 1 0 10 (by first | decide | omega)]; exact q10
  -- the rest's letter
  obtain ⟨F1, B1, e1, w1⟩ : ∃ F1 B1, f_Scribe_writeNote K 0 v g F B = f_Scribe_writeNote_19 K 0 v g F1 B1 ∧ TC q (T ++ (if m = 0 then [114] else [])) F1 B1 := by
    unfold f_Scribe_writeNote f_Event_isRest f_Event_isRest_12
    have f1 : F 7 0 1 = 1 := by rw [h.2.1 7 0 1 (by first | decide | omega)]; exact q1
    rw [if_pos ⟨(by first | decide | omega), h7⟩, f4, if_pos ⟨(by first | decide | omega), h1⟩, if_pos ⟨(by first | decide | omega), h1⟩, f10, if_pos (by unfold r32; omega)]
    by_cases z : m = 0
    · obtain ⟨F1, B1, e1, w1⟩ := C_pt (a := 114) h0 h
      rw [if_pos z, if_pos (by first | decide | omega), zb_s, if_pos (by decide), if_neg (by decide), f1, if_pos (by first | decide | omega), e1, zb_s, if_pos z]
      exact ⟨F1, B1, rfl, w1⟩
    · rw [if_neg z, if_pos (by first | decide | omega), zb_s, if_pos (by decide), if_pos rfl, if_neg z, List.append_nil]
      exact ⟨F, B, rfl, h⟩
  have g1 : F1 7 0 1 = 1 := by rw [w1.2.1 7 0 1 (by first | decide | omega)]; exact q1
  have g4 : F1 7 0 4 = 0 := by rw [w1.2.1 7 0 4 (by first | decide | omega)]; exact q4
  have g10 : F1 1 0 10 = m := by rw [w1.2.1 1 0 10 (by first | decide | omega)]; exact q10
  -- the bracket
  obtain ⟨F2, B2, e2, w2⟩ : ∃ F2 B2, f_ByteRow_putText K 1 (if m ≤ 1 then 15 else 14) F1 B1 = some (0, F2, B2) ∧ TC q (T ++ (if m = 0 then [114] else []) ++ (if 1 < m then [60] else [])) F2 B2 := by
    by_cases z : m ≤ 1
    · rw [if_pos z, if_neg (show ¬ 1 < m by omega)]
      exact C_strg h0 hK (by decide) (by decide) (by decide) (by decide) w1
    · rw [if_neg z, if_pos (show 1 < m by omega)]
      exact C_strg h0 hK (by decide) (by decide) (by decide) (by decide) w1
  have e19 : f_Scribe_writeNote_19 K 0 v g F1 B1 = f_Scribe_writeNote_46 K K.1 0 0 v g F2 B2 := by
    unfold f_Scribe_writeNote_19
    rw [if_pos ⟨(by first | decide | omega), h7⟩, g4, if_pos ⟨(by first | decide | omega), h1⟩, g10, if_pos (by unfold r32; omega), g1]
    have : f_Scribe_writeNote_41 K 0 v g 1 (if m ≤ 1 then 15 else 14) F1 B1 = f_Scribe_writeNote_46 K K.1 0 0 v g F2 B2 := by
      unfold f_Scribe_writeNote_41
      rw [if_pos (by first | decide | omega), e2, zb_s]
    rw [← this]
    by_cases z : m ≤ 1
    · rw [if_pos z, if_pos z]
    · rw [if_neg z, if_neg z]
  obtain ⟨F3, B3, e3, w3⟩ := C_wn46 (v := v) (g := g) h0 h7 h1 hK q1 q4 q10 hm hp m.toNat K.1 0 _ F2 B2 (by first | decide | omega) (by first | decide | omega) (by first | decide | omega) w2
  obtain ⟨F4, B4, e4, w4⟩ : ∃ F4 B4, f_ByteRow_putText K 1 (if m ≤ 1 then 18 else 17) F3 B3 = some (0, F4, B4) ∧ TC q (T ++ (if m = 0 then [114] else []) ++ (if 1 < m then [60] else []) ++ chT st al m.toNat 0 ++ ((if 1 < m then [62] else []) ++ [58])) F4 B4 := by
    by_cases z : m ≤ 1
    · rw [if_pos z, if_neg (show ¬ 1 < m by omega), if_neg (show ¬ 1 < m by omega)]
      rw [if_neg (show ¬ 1 < m by omega)] at w3
      exact C_strg h0 hK (by decide) (by decide) (by decide) (by decide) w3
    · rw [if_neg z, if_pos (show 1 < m by omega), if_pos (show 1 < m by omega)]
      rw [if_pos (show 1 < m by omega)] at w3
      exact C_strg h0 hK (by decide) (by decide) (by decide) (by decide) w3
  have s7 := sh7e hv.1 hv.2
  obtain ⟨F5, B5, e5, w5⟩ := C_dec h0 hK s7.2 w4
  obtain ⟨F6, B6, e6, w6⟩ := C_wn142 h0 h7 h1 hK q1 q4 q10 hm hv hg (2 - v % 3).toNat K.1 0 _ F5 B5 (by first | decide | omega) (by first | decide | omega) (by first | decide | omega) w5
  refine ⟨F6, B6, ?_, ?_⟩
  · have k1 : F4 7 0 1 = 1 := by rw [w4.2.1 7 0 1 (by first | decide | omega)]; exact q1
    rw [e1, e19, e3]
    unfold f_Scribe_writeNote_125
    rw [if_pos (by first | decide | omega), e4, zb_s, if_pos ⟨(by first | decide | omega), h7⟩, k1, if_pos (by first | decide | omega), s7.1, e5, zb_s, e6]
  · unfold ntA
    simp only [List.append_assoc, List.cons_append, List.nil_append] at w6 ⊢
    exact w6
end
end
section
section
/-! ===== the text of a note, the reference ===== -/
theorem rptT_l {c : Int} : ∀ d : Nat, (rptT c d).length = d := by
  intro d
  induction d with
  | zero => rfl
  | succ d ih => rw [rptT, List.length_cons, ih]
theorem decT_l {v : Int} : (decT v).length ≤ 3 ∧ 1 ≤ (decT v).length := by
  unfold decT
  split
  · simp
  · split <;> simp
theorem if_l {c : Prop} [Decidable c] {x : Int} : (if c then [x] else ([] : List Int)).length ≤ 1 := by
  split <;> simp
theorem pitT_l {s a : Int} (ha : -7 ≤ a ∧ a ≤ 7) : (pitT s a).length ≤ 9 := by
  unfold pitT
  rw [List.length_cons, List.length_append, rptT_l, List.length_singleton]
  split <;> omega
theorem chT_l {st al : Int → Int} : ∀ (d : Nat) (k : Int), (∀ j, k ≤ j → j < k + d → -7 ≤ al j ∧ al j ≤ 7) → (chT st al d k).length ≤ 10 * d := by
  intro d
  induction d with
  | zero => intro k _; exact Nat.zero_le _
  | succ d ih =>
    intro k h
    have := ih (k + 1) (fun j a b => h j (by first | decide | omega) (by first | decide | omega))
    have p := pitT_l (s := st k) (h k (by first | decide | omega) (by first | decide | omega))
    have i := if_l (c := 0 < k) (x := 32)
    rw [chT, List.length_append, List.length_append]
    omega
section
variable {Km : Nat} {q : zF × zB} {w v i m vv last : Int} {st al : Int → Int}
theorem M_161 {rec' : Int → Int → Int → Int → Int → zF → zB → zO} {s a l7 l6 l5 l4 l3 : Int} (hK : 200 ≤ Km) (hs : 0 ≤ s ∧ s ≤ 62) (ha : -7 ≤ a ∧ a ≤ 7) : ∀ (d n : Nat) (k : Int) (T : List Int) (F : zF) (B : zB), k + d = (if 0 < a then 0 else -a) → 0 ≤ k → d < n → T.length < 15000 - d → TM q T F B → ∃ F' B', f_M_downNote_161 rec' Km n k a s l7 l6 l5 l4 l3 F B = rec' (l7 + 1) l6 l5 l4 l3 F' B' ∧ TM q (T ++ (rptT 98 d ++ [48 + s / 7])) F' B' := by
  have zd : zdv s 7 = s / 7 := zdv_e hs.1 (by unfold r32; omega) (by decide) (by decide)
  intro d
  induction d with
  | zero =>
    intro n k T F B e k0 hn hl h
    obtain ⟨p, rfl⟩ : ∃ p, n = p + 1 := ⟨n - 1, (by first | decide | omega)⟩
    obtain ⟨F1, B1, e1, w1⟩ := M_dec (Km := Km) (v := s / 7) hK (by first | decide | omega) (by first | decide | omega) h
    have dt : decT (s / 7) = [48 + s / 7] := by unfold decT; rw [if_pos (by first | decide | omega), show s / 7 % 10 = s / 7 by omega]
    rw [dt] at w1
    refine ⟨F1, B1, ?_, w1⟩
    rw [f_M_downNote_161, if_pos (by unfold r32; split at e <;> omega), if_pos (by unfold r32; omega), if_pos (by split at e <;> omega), zd, e1, zb_s]
  | succ d ih =>
    intro n k T F B e k0 hn hl h
    obtain ⟨p, rfl⟩ : ∃ p, n = p + 1 := ⟨n - 1, (by first | decide | omega)⟩
    obtain ⟨F1, B1, e1, w1⟩ := M_pt (Km := Km) (a := 98) (by first | decide | omega) h
    obtain ⟨F2, B2, e2, w2⟩ := ih p (k + 1) _ F1 B1 (by first | decide | omega) (by first | decide | omega) (by first | decide | omega) (by rw [List.length_append, List.length_singleton]; omega) w1
    refine ⟨F2, B2, ?_, ?_⟩
    · rw [f_M_downNote_161, if_pos (by unfold r32; split at e <;> omega), if_pos (by unfold r32; omega), if_neg (by split at e <;> omega), e1, zb_s]
      exact e2
    · rw [List.append_assoc] at w2
      exact w2
theorem M_139 {rec' : Int → Int → Int → Int → Int → zF → zB → zO} {s a l7 l6 l5 l4 l3 : Int} (hK : 200 ≤ Km) (hs : 0 ≤ s ∧ s ≤ 62) (ha : -7 ≤ a ∧ a ≤ 7) : ∀ (d n : Nat) (k : Int) (T : List Int) (F : zF) (B : zB), k + d = (if 0 < a then a else 0) → 0 ≤ k → d < n → T.length < 14900 - d → TM q T F B → ∃ F' B', f_M_downNote_139 rec' Km n k a s l7 l6 l5 l4 l3 F B = rec' (l7 + 1) l6 l5 l4 l3 F' B' ∧ TM q (T ++ (rptT 35 d ++ (rptT 98 (if 0 < a then 0 else -a).toNat ++ [48 + s / 7]))) F' B' := by
  intro d
  induction d with
  | zero =>
    intro n k T F B e k0 hn hl h
    obtain ⟨p, rfl⟩ : ∃ p, n = p + 1 := ⟨n - 1, (by first | decide | omega)⟩
    obtain ⟨F1, B1, e1, w1⟩ := M_161 (rec' := rec') (l7 := l7) (l6 := l6) (l5 := l5) (l4 := l4) (l3 := l3) hK hs ha (if 0 < a then 0 else -a).toNat Km 0 T F B (by split <;> omega) (by first | decide | omega) (by split <;> omega) (by split <;> omega) h
    refine ⟨F1, B1, ?_, w1⟩
    rw [f_M_downNote_139, if_pos (by unfold r32; split at e <;> omega), if_pos (by unfold r32; omega), if_pos (by split at e <;> omega), e1]
  | succ d ih =>
    intro n k T F B e k0 hn hl h
    obtain ⟨p, rfl⟩ : ∃ p, n = p + 1 := ⟨n - 1, (by first | decide | omega)⟩
    obtain ⟨F1, B1, e1, w1⟩ := M_pt (Km := Km) (a := 35) (by first | decide | omega) h
    obtain ⟨F2, B2, e2, w2⟩ := ih p (k + 1) _ F1 B1 (by first | decide | omega) (by first | decide | omega) (by first | decide | omega) (by rw [List.length_append, List.length_singleton]; omega) w1
    refine ⟨F2, B2, ?_, ?_⟩
    · rw [f_M_downNote_139, if_pos (by unfold r32; split at e <;> omega), if_pos (by unfold r32; omega), if_neg (by split at e <;> omega), e1, zb_s]
      exact e2
    · rw [List.append_assoc] at w2
      exact w2
theorem pit_e {s a : Int} : zsc 47 (s % 7) :: (rptT 35 (if 0 < a then a else 0).toNat ++ (rptT 98 (if 0 < a then 0 else -a).toNat ++ [48 + s / 7])) = pitT s a := by
  unfold pitT
  by_cases z : 0 < a
  · rw [if_pos z, if_pos z, if_pos z, if_pos z]; rfl
  · rw [if_neg z, if_neg z, if_neg z, if_neg z]; rfl
theorem M_121 {rec' : Int → Int → Int → Int → Int → zF → zB → zO} {s a l7 l6 l5 l4 l3 : Int} {T : List Int} {F : zF} {B : zB} (hK : 200 ≤ Km) (hs : 0 ≤ s ∧ s ≤ 62) (ha : -7 ≤ a ∧ a ≤ 7) (hl : T.length < 14000) (h : TM q T F B) : ∃ F' B', f_M_downNote_121 rec' Km a s l7 l6 l5 l4 l3 F B = rec' (l7 + 1) l6 l5 l4 l3 F' B' ∧ TM q (T ++ pitT s a) F' B' := by
  have l47 : zsl 47 = 7 := by decide
  have zr : zrm s 7 = s % 7 := zrm_e hs.1 (by unfold r32; omega) (by decide) (by decide)
  obtain ⟨F1, B1, e1, w1⟩ := M_pt (Km := Km) (a := zsc 47 (s % 7)) (by first | decide | omega) h
  obtain ⟨F2, B2, e2, w2⟩ := M_139 (rec' := rec') (l7 := l7) (l6 := l6) (l5 := l5) (l4 := l4) (l3 := l3) hK hs ha (if 0 < a then a else 0).toNat Km 0 _ F1 B1 (by split <;> omega) (by first | decide | omega) (by split <;> omega) (by rw [List.length_append, List.length_singleton]; split <;> omega) w1
  refine ⟨F2, B2, ?_, ?_⟩
  · unfold f_M_downNote_121
    rw [zr, L_schar (by decide) (by first | decide | omega) (by first | decide | omega) (by first | decide | omega), zb_s, e1, zb_s, e2]
  · rw [List.append_assoc, List.singleton_append, pit_e] at w2
    exact w2
theorem M_67 {x l4 : Int} (hK : 200 ≤ Km) (hw : q.1 14 0 6 = w ∧ 0 ≤ w ∧ w < 3) (hx : 0 < m → 0 ≤ x ∧ x < 4000) (hm : 0 ≤ m ∧ m ≤ 6) (hp : ∀ k, 0 ≤ k → k < m → q.2 13 w 28 (6 * x + k) = st k ∧ q.2 13 w 29 (6 * x + k) = al k ∧ (0 ≤ st k ∧ st k ≤ 62) ∧ (-7 ≤ al k ∧ al k ≤ 7)) : ∀ (d n : Nat) (k : Int) (T : List Int) (F : zF) (B : zB), k + d = m → 0 ≤ k → d < n → T.length < 13000 - 10 * d → TM q T F B → ∃ F' B', f_M_downNote_67 Km n k m x l4 last F B = f_M_downNote_208 Km m l4 last F' B' ∧ TM q (T ++ (chT st al d k ++ (if 1 < m then [62] else []))) F' B' := by
  intro d
  induction d with
  | zero =>
    intro n k T F B e k0 hn hl h
    obtain ⟨p, rfl⟩ : ∃ p, n = p + 1 := ⟨n - 1, (by first | decide | omega)⟩
    rw [f_M_downNote_67, if_pos (by unfold r32; omega), if_pos (by unfold r32; omega), if_pos (by first | decide | omega), chT]
    by_cases z : m ≤ 1
    · rw [if_pos z, if_neg (show ¬ 1 < m by omega), List.nil_append, List.append_nil]
      exact ⟨F, B, rfl, h⟩
    · obtain ⟨F1, B1, e1, w1⟩ := M_pt (Km := Km) (a := 62) (by first | decide | omega) h
      rw [if_neg z, if_pos (show 1 < m by omega), e1, zb_s, List.nil_append]
      exact ⟨F1, B1, rfl, w1⟩
  | succ d ih =>
    intro n k T F B e k0 hn hl h
    obtain ⟨p, rfl⟩ : ∃ p, n = p + 1 := ⟨n - 1, (by first | decide | omega)⟩
    obtain ⟨p1, p2, p3, p4⟩ := hp k k0 (by first | decide | omega)
    have f6 : F 14 0 6 = w := by rw [h.2.1 14 0 6 (by first | decide | omega)]; exact hw.1
    have hx' := hx (by first | decide | omega)
    obtain ⟨F1, B1, e1, w1⟩ : ∃ F1 B1, (if k ≤ 0 then f_M_downNote_121 (f_M_downNote_67 Km p) Km (al k) (st k) k m x l4 last F B else zbind (f_M_put_0 Km 32 F B) (fun r21 F21 B21 => f_M_downNote_121 (f_M_downNote_67 Km p) Km (al k) (st k) k m x l4 last F21 B21)) = f_M_downNote_121 (f_M_downNote_67 Km p) Km (al k) (st k) k m x l4 last F1 B1 ∧ TM q (T ++ (if 0 < k then [32] else [])) F1 B1 := by
      by_cases z : k ≤ 0
      · rw [if_pos z, if_neg (by first | decide | omega), List.append_nil]; exact ⟨F, B, rfl, h⟩
      · obtain ⟨F1, B1, e1, w1⟩ := M_pt (Km := Km) (a := 32) (by first | decide | omega) h
        rw [if_neg z, if_pos (by first | decide | omega), e1, zb_s]; exact ⟨F1, B1, rfl, w1⟩
    have il := if_l (c := 0 < k) (x := 32)
    have pl := pitT_l (s := st k) p4
    obtain ⟨F2, B2, e2, w2⟩ := M_121 (rec' := f_M_downNote_67 Km p) (l7 := k) (l6 := m) (l5 := x) (l4 := l4) (l3 := last) hK p3 p4 (by rw [List.length_append]; omega) w1
    obtain ⟨F3, B3, e3, w3⟩ := ih p (k + 1) _ F2 B2 (by first | decide | omega) (by first | decide | omega) (by first | decide | omega) (by rw [List.length_append, List.length_append]; omega) w2
    refine ⟨F3, B3, ?_, ?_⟩
    · rw [f_M_downNote_67, if_pos (by unfold r32; omega), if_pos (by unfold r32; omega), if_neg (by first | decide | omega), f6, if_pos hw.2, if_pos (by first | decide | omega), h.2.2 13 w 28 _ (by first | decide | omega), h.2.2 13 w 29 _ (by first | decide | omega), p1, p2, e1, e2, e3]
    · rw [chT]
      simp only [List.append_assoc] at w3 ⊢
      exact w3
theorem M_233 {l4 : Int} (hw : q.1 14 0 6 = w ∧ 0 ≤ w ∧ w < 3) (h4 : 0 ≤ l4 ∧ l4 < 3200) (hm : 0 ≤ m ∧ m ≤ 6) (hv : 0 ≤ vv ∧ vv < 24) (h35 : q.2 13 w 35 l4 = 2 - vv % 3) (hl : last = 0 ∨ last = 1) (hn : last = 0 → l4 + 1 < 3200 ∧ r32 (q.2 13 w 30 (l4 + 1)) ∧ r32 (q.2 13 w 30 l4) ∧ r32 (q.2 13 w 31 (l4 + 1)) ∧ r32 (q.2 13 w 31 l4)) : ∀ (d n : Nat) (k : Int) (T : List Int) (F : zF) (B : zB), k + d = 2 - vv % 3 → 0 ≤ k → d < n → T.length < 13500 - d → TM q T F B → ∃ F' B', f_M_downNote_233 Km n k m l4 last F B = some (0, F', B') ∧ TM q (T ++ (rptT 46 d ++ ((if 0 < m ∧ last = 0 ∧ q.2 13 w 30 (l4 + 1) = q.2 13 w 30 l4 then [126] else []) ++ (32 :: (if last = 0 ∧ q.2 13 w 31 (l4 + 1) = q.2 13 w 31 l4 then [] else [124, 10]))))) F' B' := by
  have e300 : ∀ (T : List Int) (F : zF) (B : zB), T.length < 14000 → TM q T F B → ∃ F' B', f_M_downNote_300 Km l4 last F B = some (0, F', B') ∧ TM q (T ++ (32 :: (if last = 0 ∧ q.2 13 w 31 (l4 + 1) = q.2 13 w 31 l4 then [] else [124, 10]))) F' B' := by
    intro T F B ht h
    obtain ⟨F1, B1, e1, w1⟩ := M_pt (Km := Km) (a := 32) (by first | decide | omega) h
    have g6 : F1 14 0 6 = w := by rw [w1.2.1 14 0 6 (by first | decide | omega)]; exact hw.1
    have e336 : ∃ F' B', f_M_downNote_336 Km F1 B1 = some (0, F', B') ∧ TM q (T ++ (32 :: [124, 10])) F' B' := by
      obtain ⟨F2, B2, e2, w2⟩ := M_pt (Km := Km) (a := 124) (by rw [List.length_append, List.length_singleton]; omega) w1
      obtain ⟨F3, B3, e3, w3⟩ := M_pt (Km := Km) (a := 10) (by rw [List.length_append, List.length_append, List.length_singleton, List.length_singleton]; omega) w2
      refine ⟨F3, B3, ?_, ?_⟩
      · unfold f_M_downNote_336
        rw [e2, zb_s, e3, zb_s]
      · simp only [List.append_assoc, List.singleton_append] at w3
        exact w3
    unfold f_M_downNote_300
    rw [e1, zb_s, if_pos (by unfold r32; omega)]
    by_cases z : last = 0
    · obtain ⟨n1, n2, n3, n4, n5⟩ := hn z
      rw [if_pos z, g6, if_pos hw.2, if_pos (by first | decide | omega), if_pos h4, w1.2.2 13 w 31 _ (by first | decide | omega), w1.2.2 13 w 31 _ (by first | decide | omega), if_pos n4, if_pos n5]
      by_cases y : q.2 13 w 31 (l4 + 1) = q.2 13 w 31 l4
      · rw [if_pos y, if_pos ⟨z, y⟩]; exact ⟨F1, B1, rfl, w1⟩
      · rw [if_neg y, if_neg (fun c => y c.2)]; exact e336
    · rw [if_neg z, if_neg (fun c => z c.1)]; exact e336
  intro d
  induction d with
  | zero =>
    intro n k T F B e k0 hn' ht h
    obtain ⟨p, rfl⟩ : ∃ p, n = p + 1 := ⟨n - 1, (by first | decide | omega)⟩
    have f6 : F 14 0 6 = w := by rw [h.2.1 14 0 6 (by first | decide | omega)]; exact hw.1
    rw [f_M_downNote_233, f6, if_pos hw.2, if_pos h4, if_pos (by unfold r32; omega), h.2.2 13 w 35 _ (by first | decide | omega), h35, if_pos (by unfold r32; omega), if_pos (by first | decide | omega), if_pos (by unfold r32; omega), rptT, List.nil_append]
    by_cases z : m ≤ 0
    · rw [if_pos z, if_neg (show ¬ (0 < m ∧ _ ∧ _) from fun c => by have := c.1; omega), List.nil_append]
      exact e300 T F B (by first | decide | omega) h
    · rw [if_neg z, if_pos (by unfold r32; omega)]
      by_cases y : last = 0
      · obtain ⟨n1, n2, n3, n4, n5⟩ := hn y
        rw [if_pos y, if_pos (by first | decide | omega), h.2.2 13 w 30 _ (by first | decide | omega), h.2.2 13 w 30 _ (by first | decide | omega), if_pos n2, if_pos n3]
        by_cases u : q.2 13 w 30 (l4 + 1) = q.2 13 w 30 l4
        · obtain ⟨F1, B1, e1, w1⟩ := M_pt (Km := Km) (a := 126) (by first | decide | omega) h
          obtain ⟨F2, B2, e2, w2⟩ := e300 _ F1 B1 (by rw [List.length_append, List.length_singleton]; omega) w1
          rw [if_pos u, if_pos (show 0 < m ∧ last = 0 ∧ _ from ⟨(by first | decide | omega), y, u⟩), e1, zb_s]
          refine ⟨F2, B2, e2, ?_⟩
          rw [List.append_assoc] at w2
          exact w2
        · rw [if_neg u, if_neg (show ¬ (0 < m ∧ last = 0 ∧ _) from fun c => u c.2.2), List.nil_append]
          exact e300 T F B (by first | decide | omega) h
      · rw [if_neg y, if_neg (show ¬ (0 < m ∧ last = 0 ∧ _) from fun c => y c.2.1), List.nil_append]
        exact e300 T F B (by first | decide | omega) h
  | succ d ih =>
    intro n k T F B e k0 hn' ht h
    obtain ⟨p, rfl⟩ : ∃ p, n = p + 1 := ⟨n - 1, (by first | decide | omega)⟩
    have f6 : F 14 0 6 = w := by rw [h.2.1 14 0 6 (by first | decide | omega)]; exact hw.1
    obtain ⟨F1, B1, e1, w1⟩ := M_pt (Km := Km) (a := 46) (by first | decide | omega) h
    obtain ⟨F2, B2, e2, w2⟩ := ih p (k + 1) _ F1 B1 (by first | decide | omega) (by first | decide | omega) (by first | decide | omega) (by rw [List.length_append, List.length_singleton]; omega) w1
    refine ⟨F2, B2, ?_, ?_⟩
    · rw [f_M_downNote_233, f6, if_pos hw.2, if_pos h4, if_pos (by unfold r32; omega), h.2.2 13 w 35 _ (by first | decide | omega), h35, if_pos (by unfold r32; omega), if_neg (by first | decide | omega), e1, zb_s]
      exact e2
    · rw [List.append_assoc] at w2
      exact w2
/-- a note of the reference; its event has m tones -/
theorem M_dn {x : Int} {T : List Int} {F : zF} {B : zB} (hK : 200 ≤ Km) (hw : q.1 14 0 6 = w ∧ 0 ≤ w ∧ w < 3) (v0 : 0 ≤ v ∧ v < 4) (i0 : 0 ≤ i ∧ i < 800) (he : -1 ≤ q.2 13 w 30 (800 * v + i) ∧ q.2 13 w 30 (800 * v + i) < 1000) (hx : x = 1000 * v + q.2 13 w 30 (800 * v + i)) (hme : m = if q.2 13 w 30 (800 * v + i) < 0 then 0 else q.2 13 w 21 x) (hm : 0 ≤ m ∧ m ≤ 6) (hp : ∀ k, 0 ≤ k → k < m → q.2 13 w 28 (6 * x + k) = st k ∧ q.2 13 w 29 (6 * x + k) = al k ∧ (0 ≤ st k ∧ st k ≤ 62) ∧ (-7 ≤ al k ∧ al k ≤ 7)) (hv : 0 ≤ vv ∧ vv < 24) (h34 : q.2 13 w 34 (800 * v + i) = vv / 3) (h35 : q.2 13 w 35 (800 * v + i) = 2 - vv % 3) (hl : last = 0 ∨ last = 1) (hn : last = 0 → i < 799 ∧ r32 (q.2 13 w 30 (800 * v + i + 1)) ∧ r32 (q.2 13 w 31 (800 * v + i + 1)) ∧ r32 (q.2 13 w 31 (800 * v + i))) (ht : T.length ≤ 3000) (h : TM q T F B) : ∃ F' B', f_M_downNote Km v i last F B = some (0, F', B') ∧ TM q (T ++ (ntA m st al vv ++ ((if 0 < m ∧ last = 0 ∧ q.2 13 w 30 (800 * v + i + 1) = q.2 13 w 30 (800 * v + i) then [126] else []) ++ (32 :: (if last = 0 ∧ q.2 13 w 31 (800 * v + i + 1) = q.2 13 w 31 (800 * v + i) then [] else [124, 10]))))) F' B' := by
  have f6 : F 14 0 6 = w := by rw [h.2.1 14 0 6 (by first | decide | omega)]; exact hw.1
  have s7 := sh7e hv.1 hv.2
  obtain ⟨y, ey, em⟩ : ∃ y, f_M_downNote Km v i last F B = f_M_downNote_39 Km y (800 * v + i) last m F B ∧ (0 < m → y = x) := by
    unfold f_M_downNote f_M_sounding f_M_sounding_32 f_M_sounding_43
    rw [f6, if_pos hw.2, if_pos hw.2, if_pos (by first | decide | omega), h.2.2 13 w 30 _ (by first | decide | omega), if_pos (by unfold r32; omega)]
    by_cases z : q.2 13 w 30 (800 * v + i) < 0
    · rw [if_pos z, zb_s, if_pos (by decide), if_neg (by decide)]
      rw [if_pos z] at hme
      exact ⟨-1, by rw [hme], fun c => (by first | decide | omega)⟩
    · rw [if_neg z] at hme
      rw [if_neg z, if_pos (by first | decide | omega), h.2.2 13 w 21 _ (by first | decide | omega), ← hx, ← hme, if_pos (by unfold r32; omega)]
      by_cases u : m = 0
      · rw [if_pos u, zb_s, if_pos (by decide), if_neg (by decide)]
        exact ⟨-1, by rw [u], fun c => (by first | decide | omega)⟩
      · rw [if_neg u, zb_s, if_pos (by unfold r32; omega), if_pos (by first | decide | omega), f6, if_pos hw.2, if_pos (by first | decide | omega), h.2.2 13 w 21 _ (by first | decide | omega), ← hme]
        exact ⟨x, rfl, fun _ => rfl⟩
  rw [ey]
  obtain ⟨F1, B1, e1, w1⟩ : ∃ F1 B1, f_M_downNote_39 Km y (800 * v + i) last m F B = f_M_downNote_52 Km m y (800 * v + i) last F1 B1 ∧ TM q (T ++ (if m = 0 then [114] else [])) F1 B1 := by
    unfold f_M_downNote_39
    rw [if_pos (by unfold r32; omega)]
    by_cases z : m = 0
    · obtain ⟨F1, B1, e1, w1⟩ := M_pt (Km := Km) (a := 114) (by first | decide | omega) h
      rw [if_pos z, if_pos z, e1, zb_s]; exact ⟨F1, B1, rfl, w1⟩
    · rw [if_neg z, if_neg z, List.append_nil]; exact ⟨F, B, rfl, h⟩
  have l1 := if_l (c := m = 0) (x := 114)
  have l2 := if_l (c := 1 < m) (x := 60)
  have l3 := if_l (c := 1 < m) (x := 62)
  obtain ⟨F2, B2, e2, w2⟩ : ∃ F2 B2, f_M_downNote_52 Km m y (800 * v + i) last F1 B1 = f_M_downNote_67 Km Km 0 m y (800 * v + i) last F2 B2 ∧ TM q (T ++ (if m = 0 then [114] else []) ++ (if 1 < m then [60] else [])) F2 B2 := by
    unfold f_M_downNote_52 f_M_downNote_64
    rw [if_pos (by unfold r32; omega)]
    by_cases z : m ≤ 1
    · rw [if_pos z, if_neg (show ¬ 1 < m by omega), List.append_nil]; exact ⟨F1, B1, rfl, w1⟩
    · obtain ⟨F2, B2, e2, w2⟩ := M_pt (Km := Km) (a := 60) (by rw [List.length_append]; omega) w1
      rw [if_neg z, if_pos (show 1 < m by omega), e2, zb_s]; exact ⟨F2, B2, rfl, w2⟩
  have hy : 0 < m → 0 ≤ y ∧ y < 4000 := fun c => by
    rw [em c]
    by_cases z : q.2 13 w 30 (800 * v + i) < 0
    · rw [if_pos z] at hme; omega
    · omega
  obtain ⟨F3, B3, e3, w3⟩ := M_67 (x := y) (l4 := 800 * v + i) (last := last) (st := st) (al := al) hK hw hy hm (fun k k0 k1 => by rw [em (by first | decide | omega)]; exact hp k k0 k1) m.toNat Km 0 _ F2 B2 (by first | decide | omega) (by first | decide | omega) (by first | decide | omega) (by rw [List.length_append, List.length_append]; omega) w2
  have cl := chT_l (st := st) (al := al) m.toNat 0 (fun j a b => (hp j a (by first | decide | omega)).2.2.2)
  obtain ⟨F4, B4, e4, w4⟩ := M_pt (Km := Km) (a := 58) (by simp only [List.length_append]; omega) w3
  have g6 : F4 14 0 6 = w := by rw [w4.2.1 14 0 6 (by first | decide | omega)]; exact hw.1
  obtain ⟨F5, B5, e5, w5⟩ := M_dec (Km := Km) hK s7.2 (by simp only [List.length_append, List.length_singleton]; omega) w4
  have dl := decT_l (v := zshl 1 (vv / 3))
  obtain ⟨F6, B6, e6, w6⟩ := M_233 (Km := Km) (l4 := 800 * v + i) (m := m) (last := last) hw (by first | decide | omega) hm hv h35 hl (fun c => by
    obtain ⟨n1, n2, n3, n4⟩ := hn c
    exact ⟨(by first | decide | omega), n2, by unfold r32; omega, n3, n4⟩) (2 - vv % 3).toNat Km 0 _ F5 B5 (by first | decide | omega) (by first | decide | omega) (by first | decide | omega) (by simp only [List.length_append, List.length_singleton]; omega) w5
  refine ⟨F6, B6, ?_, ?_⟩
  · rw [e1, e2, e3]
    unfold f_M_downNote_208
    rw [e4, zb_s, g6, if_pos hw.2, if_pos (by first | decide | omega), w4.2.2 13 w 34 _ (by first | decide | omega), h34, e5, zb_s, e6]
  · unfold ntA
    simp only [List.append_assoc, List.cons_append, List.nil_append, List.singleton_append] at w6 ⊢
    exact w6
end
end
end
section
section
/-! ===== spans of notes ===== -/
theorem fv_t : ∀ k : Fin 18, fv (k.val : Int) % 16 = 0 ∨ (k.val : Int) = 12 ∨ (k.val : Int) = 15 ∨ (k.val : Int) = 16 := by decide +kernel
theorem fv_g : ∀ k : Fin 18, 16 ≤ fv (k.val : Int) := by decide +kernel
theorem st_1 {n d a : Int} : 1 ≤ st n d a := by
  unfold st st5
  repeat' split
  all_goals omega
theorem mx_1 {a b : Int} (h : 1 ≤ b) : 1 ≤ mx a b := by unfold mx; split <;> omega
theorem bt_16 {n f : Int} (f16 : f % 16 = 0) : bt n 2 f (f + 16) = 1 := by
  unfold bt bt5 bc bw
  simp only [show (512 : Int) / 2 = 256 from rfl, show (256 : Int) / 2 = 128 from rfl, show (256 : Int) / 4 = 64 from rfl, show (256 : Int) / 8 = 32 from rfl, show (256 : Int) / 16 = 16 from rfl, show ¬ (8 : Int) ≤ 2 by decide, show (2 : Int) ≤ 4 by decide, false_and, if_false, if_true, Int.mul_one]
  rw [if_neg (by first | decide | omega), if_neg (by first | decide | omega), if_neg (by first | decide | omega), if_neg (by first | decide | omega), if_neg (by first | decide | omega), if_neg (by first | decide | omega), if_neg (by first | decide | omega)]
theorem bt_xy {n f x y : Int} (f16 : f % 16 = 0) (h : (x = 56 ∧ y = 64) ∨ (x = 28 ∧ y = 32) ∨ (x = 24 ∧ y = 32)) : bt n 2 f (f + y) = bt n 2 f (f + x) := by
  unfold bt bt5 bc bw
  simp only [show (512 : Int) / 2 = 256 from rfl, show (256 : Int) / 2 = 128 from rfl, show (256 : Int) / 4 = 64 from rfl, show (256 : Int) / 8 = 32 from rfl, show (256 : Int) / 16 = 16 from rfl, show ¬ (8 : Int) ≤ 2 by decide, show (2 : Int) ≤ 4 by decide, false_and, if_false, if_true, Int.mul_one]
  have h0 : (n % 2 = 0 ∧ 2 * f < 256 * n ∧ 256 * n < 2 * (f + y)) ↔ (n % 2 = 0 ∧ 2 * f < 256 * n ∧ 256 * n < 2 * (f + x)) := by omega
  have h1 : ((f / 256 + 1) * 256 < f + y) ↔ ((f / 256 + 1) * 256 < f + x) := by omega
  have h2 : ((f / 128 + 1) * 128 < f + y) ↔ ((f / 128 + 1) * 128 < f + x) := by omega
  have h3 : ((f / 64 + 1) * 64 < f + y) ↔ ((f / 64 + 1) * 64 < f + x) := by omega
  have h4 : ((f / 32 + 1) * 32 < f + y) ↔ ((f / 32 + 1) * 32 < f + x) := by omega
  have h5 : ((f / 16 + 1) * 16 < f + y) ↔ ((f / 16 + 1) * 16 < f + x) := by omega
  simp only [h0, h1, h2, h3, h4, h5]
theorem st_x {n a : Int} (h : ¬ a % 16 = 0) : st n 2 a = 1 := by
  unfold st st5 bc
  simp only [show (512 : Int) / 2 = 256 from rfl, show (256 : Int) / 2 = 128 from rfl, show (256 : Int) / 4 = 64 from rfl, show (256 : Int) / 8 = 32 from rfl, show (256 : Int) / 16 = 16 from rfl, show ¬ (8 : Int) ≤ 2 by decide, show (2 : Int) ≤ 4 by decide, false_and, if_false, if_true, Int.mul_one]
  rw [if_neg (by first | decide | omega), if_neg (by first | decide | omega), if_neg (by first | decide | omega), if_neg (by first | decide | omega), if_neg (by first | decide | omega), if_neg (by first | decide | omega), if_neg (by first | decide | omega), if_neg h]
theorem nv_16 {n f l : Int} (f16 : f % 16 = 0) (l0 : 0 < l) (l16 : l % 16 = 0) : fv (nvF n 2 f l) ≤ l ∧ fv (nvF n 2 f l) % 16 = 0 ∧ 16 ≤ fv (nvF n 2 f l) := by
  have v17 : fv 17 = 16 := by decide
  have p17 : decide (fv 17 ≤ l ∧ stnd n 2 f 17) = true := by
    refine decide_eq_true ⟨(by first | decide | omega), ?_⟩
    show bt n 2 f (f + fv 17) ≤ _
    rw [v17, bt_16 f16]
    exact mx_1 st_1
  unfold nvF
  generalize hk : fsN (fun k => decide (fv k ≤ l ∧ stnd n 2 f k)) 24 0 = k
  have nn := fsN_n (P := fun k => decide (fv k ≤ l ∧ stnd n 2 f k)) 24 (k := 0) (Int.le_refl _)
  rw [hk] at nn
  have k17 : k ≤ 17 ∧ 0 ≤ k := by
    refine ⟨?_, ?_⟩
    · rcases Int.lt_or_le 17 k with z | z
      · have := nn 17 (by first | decide | omega) (by first | decide | omega) (Or.inl z)
        have : false = true := this.symm.trans p17
        exact absurd this (by decide)
      · exact z
    · rcases Int.lt_or_le k 0 with z | z
      · have := nn 17 (by first | decide | omega) (by first | decide | omega) (Or.inr z)
        have : false = true := this.symm.trans p17
        exact absurd this (by decide)
      · exact z
  have hP : fv k ≤ l ∧ stnd n 2 f k := by
    rcases fsN_r (P := fun k => decide (fv k ≤ l ∧ stnd n 2 f k)) 24 (k := 0) (Int.le_refl _) with h | ⟨_, _, h⟩
    · rw [hk] at h; omega
    · rw [hk] at h; exact of_decide_eq_true h
  rw [if_neg (by first | decide | omega)]
  have fg := fv_g ⟨k.toNat, (by first | decide | omega)⟩
  have ft := fv_t ⟨k.toNat, (by first | decide | omega)⟩
  rw [show (((⟨k.toNat, (by first | decide | omega)⟩ : Fin 18).val : Nat) : Int) = k by show ((k.toNat : Nat) : Int) = k; omega] at fg ft
  refine ⟨hP.1, ?_, fg⟩
  have up : ∀ (x y j : Int), (x = 56 ∧ y = 64) ∨ (x = 28 ∧ y = 32) ∨ (x = 24 ∧ y = 32) → fv k = x → fv j = y → 0 ≤ j → j < k → False := fun x y j h hx hy j0 j1 => by
    have z := nn j (by first | decide | omega) (by first | decide | omega) (Or.inl j1)
    have hs : stnd n 2 f j := by
      show bt n 2 f (f + fv j) ≤ mx (st n 2 f) (st n 2 (f + fv j))
      have e2 : bt n 2 f (f + fv k) ≤ mx (st n 2 f) (st n 2 (f + fv k)) := hP.2
      have hl := hP.1
      rw [hx, ← bt_xy f16 h, st_x (a := f + x) (by first | decide | omega)] at e2
      rw [hy]
      have s1 : 1 ≤ st n 2 (f + y) := st_1
      unfold mx at e2 ⊢
      split at e2 <;> split <;> omega
    have : decide (fv j ≤ l ∧ stnd n 2 f j) = true := decide_eq_true ⟨by have := hP.1; omega, hs⟩
    rw [this] at z
    exact absurd z (by decide)
  rcases ft with h | h | h | h
  · exact h
  · exact absurd (up 56 64 11 (by first | decide | omega) (by rw [h]; decide) (by decide) (by decide) (by first | decide | omega)) (fun x => x)
  · exact absurd (up 28 32 14 (by first | decide | omega) (by rw [h]; decide) (by decide) (by decide) (by first | decide | omega)) (fun x => x)
  · exact absurd (up 24 32 14 (by first | decide | omega) (by rw [h]; decide) (by decide) (by decide) (by first | decide | omega)) (fun x => x)
/-- the least step of a note -/
def sdU (d : Int) : Int := if d = 2 then 16 else 4
theorem nv_s {n d f l : Int} (hd : d = 2 ∨ d = 4 ∨ d = 8 ∨ d = 16) (f4 : f % sdU d = 0) (l0 : 0 < l) (l4 : l % sdU d = 0) : fv (nvF n d f l) ≤ l ∧ fv (nvF n d f l) % sdU d = 0 ∧ sdU d ≤ fv (nvF n d f l) := by
  unfold sdU at *
  by_cases z : d = 2
  · subst z
    rw [if_pos rfl] at f4 l4 ⊢
    exact nv_16 f4 l0 l4
  · rw [if_neg z] at f4 l4 ⊢
    obtain ⟨a, b⟩ := nv_4 (n := n) (f := f) hd f4 l0 l4
    have kb := nvF_b (n := n) (d := d) (f := f) (l := l)
    have := fv_b kb.1 kb.2
    exact ⟨a, b, this.1⟩
/-- the value of the note at a in a span that ends at e -/
def kvF (n d b a e : Int) : Int := nvF n d (a % b) (zmin (e - a) (b - a % b))
def nxF (n d b a e : Int) : Int := a + fv (kvF n d b a e)
/-- what a bar is, and where notes stand -/
def BRs (n d b : Int) : Prop := (1 ≤ n ∧ n ≤ 12) ∧ (d = 2 ∨ d = 4 ∨ d = 8 ∨ d = 16) ∧ b = 512 / d * n
theorem BRs_b {n d b : Int} (h : BRs n d b) : 32 ≤ b ∧ b ≤ 3072 ∧ b % sdU d = 0 ∧ (d ≠ 2 → b ≤ 1536) ∧ 0 < sdU d ∧ b % 16 = 0 := by
  obtain ⟨hn, hd, hb⟩ := h
  unfold sdU
  rcases hd with rfl | rfl | rfl | rfl
  · have : b = 256 * n := hb
    simp; omega
  · have : b = 128 * n := hb
    simp; omega
  · have : b = 64 * n := hb
    simp; omega
  · have : b = 32 * n := hb
    simp; omega
theorem nx_b {n d b a e : Int} (h : BRs n d b) (a0 : 0 ≤ a) (ae : a < e) (ha : a % sdU d = 0) (he : e % sdU d = 0) : (0 ≤ kvF n d b a e ∧ kvF n d b a e < 24) ∧ a + sdU d ≤ nxF n d b a e ∧ nxF n d b a e ≤ e ∧ nxF n d b a e % sdU d = 0 ∧ nxF n d b a e ≤ (a / b + 1) * b := by
  obtain ⟨b1, b2, b3, _, b5, _⟩ := BRs_b h
  have sd : sdU d = 16 ∨ sdU d = 4 := by unfold sdU; split <;> omega
  have dm := Int.emod_add_mul_ediv a b
  have m0 := Int.emod_nonneg a (show b ≠ 0 by omega)
  have m1 := Int.emod_lt_of_pos a (show 0 < b by omega)
  have am : (a % b) % sdU d = 0 := by
    obtain ⟨j, hj⟩ : ∃ j, b = sdU d * j := ⟨b / sdU d, by rcases sd with h | h <;> rw [h] at b3 ⊢ <;> omega⟩
    have : sdU d ∣ b := ⟨j, hj⟩
    rw [Int.emod_emod_of_dvd _ this]; exact ha
  have zm : zmin (e - a) (b - a % b) ≤ e - a ∧ zmin (e - a) (b - a % b) ≤ b - a % b ∧ 0 < zmin (e - a) (b - a % b) ∧ (zmin (e - a) (b - a % b) = e - a ∨ zmin (e - a) (b - a % b) = b - a % b) := by unfold zmin; split <;> omega
  have lm : zmin (e - a) (b - a % b) % sdU d = 0 := by
    rcases zm.2.2.2 with h | h <;> rw [h] <;> rcases sd with g | g <;> rw [g] at ha he b3 am ⊢ <;> omega
  obtain ⟨q1, q2, q3⟩ := nv_s (n := n) h.2.1 am zm.2.2.1 lm
  have e1 : (a / b + 1) * b = b * (a / b) + b := by rw [Int.add_mul, Int.mul_comm, Int.one_mul]
  unfold nxF kvF
  refine ⟨nvF_b, (by first | decide | omega), (by first | decide | omega), ?_, (by first | decide | omega)⟩
  rcases sd with g | g <;> rw [g] at ha q2 ⊢ <;> omega
end
end
section
section
/-! ===== the text of a span ===== -/
def spT (n d b m : Int) (st al : Int → Int) : Nat → Int → Int → List Int
  | 0, _, _ => []
  | f + 1, a, e => if a < e then ntA m st al (kvF n d b a e) ++ ((if nxF n d b a e < e ∧ ¬ m = 0 then [126] else []) ++ (32 :: ((if nxF n d b a e % b = 0 then [124, 10] else []) ++ spT n d b m st al f (nxF n d b a e) e))) else []
theorem spT_i {n d b m : Int} {st al : Int → Int} (h : BRs n d b) {e : Int} (he : e % sdU d = 0) : ∀ (f f' : Nat) (a : Int), 0 ≤ a → a % sdU d = 0 → e - a ≤ sdU d * f → e - a ≤ sdU d * f' → spT n d b m st al f a e = spT n d b m st al f' a e := by
  have s0 := (BRs_b h).2.2.2.2.1
  intro f
  induction f with
  | zero =>
    intro f' a a0 ha h1 h2
    have : ¬ a < e := by simp at h1; omega
    cases f' with
    | zero => rfl
    | succ f' => rw [spT, spT, if_neg this]
  | succ f ih =>
    intro f' a a0 ha h1 h2
    by_cases z : a < e
    · cases f' with
      | zero => simp at h2; omega
      | succ f' =>
        obtain ⟨_, n1, n2, n3, _⟩ := nx_b h a0 z ha he
        have e1 : sdU d * ((f + 1 : Nat) : Int) = sdU d * f + sdU d := by rw [show ((f + 1 : Nat) : Int) = (f : Int) + 1 by omega, Int.mul_add, Int.mul_one]
        have e2 : sdU d * ((f' + 1 : Nat) : Int) = sdU d * f' + sdU d := by rw [show ((f' + 1 : Nat) : Int) = (f' : Int) + 1 by omega, Int.mul_add, Int.mul_one]
        rw [spT, spT, if_pos z, if_pos z, ih f' (nxF n d b a e) (by first | decide | omega) n3 (by first | decide | omega) (by first | decide | omega)]
    · cases f' with
      | zero => rw [spT, spT, if_neg z]
      | succ f' => rw [spT, spT, if_neg z, if_neg z]
/-- the text of a span -/
def spX (n d b m : Int) (st al : Int → Int) (a e : Int) : List Int := spT n d b m st al (e - a).toNat a e
theorem spX_0 {n d b m a e : Int} {st al : Int → Int} (h : ¬ a < e) : spX n d b m st al a e = [] := by
  unfold spX
  rw [show (e - a).toNat = 0 by omega, spT]
theorem spX_u {n d b m a e : Int} {st al : Int → Int} (h : BRs n d b) (a0 : 0 ≤ a) (ha : a % sdU d = 0) (he : e % sdU d = 0) (z : a < e) : spX n d b m st al a e = ntA m st al (kvF n d b a e) ++ ((if nxF n d b a e < e ∧ ¬ m = 0 then [126] else []) ++ (32 :: ((if nxF n d b a e % b = 0 then [124, 10] else []) ++ spX n d b m st al (nxF n d b a e) e))) := by
  have s0 := (BRs_b h).2.2.2.2.1
  have sd : sdU d = 16 ∨ sdU d = 4 := by unfold sdU; split <;> omega
  obtain ⟨_, n1, n2, n3, _⟩ := nx_b h a0 z ha he
  unfold spX
  obtain ⟨f, hf⟩ : ∃ f, (e - a).toNat = f + 1 := ⟨(e - a).toNat - 1, (by first | decide | omega)⟩
  rw [hf, spT, if_pos z, spT_i (m := m) (st := st) (al := al) h he f (e - nxF n d b a e).toNat (nxF n d b a e) (by first | decide | omega) n3 (by rcases sd with g | g <;> rw [g] at n1 ⊢ <;> omega) (by rcases sd with g | g <;> rw [g] <;> omega)]
/-- what the scribe stands on while it writes: the page, the bar, the file's heads -/
def SCq (K : zK) (o n d b : Int) (q : zF × zB) : Prop := (q.1 7 0 0 = o ∧ 0 ≤ o ∧ o < K.2 8) ∧ q.1 7 0 1 = 1 ∧ q.1 7 0 3 = b ∧ q.1 7 0 4 = 0 ∧ q.2 8 o 0 4 = n ∧ q.2 8 o 0 5 = d
def EVq (m : Int) (st al : Int → Int) (q : zF × zB) : Prop := q.1 1 0 10 = m ∧ (0 ≤ m ∧ m ≤ 6) ∧ (∀ k, 0 ≤ k → k < m → q.2 1 0 12 k = st k ∧ q.2 1 0 13 k = al k ∧ (0 ≤ st k ∧ st k ≤ 62) ∧ (-7 ≤ al k ∧ al k ≤ 7))
def KKq (K : zK) : Prop := 2 ≤ K.2 0 ∧ 0 < K.2 7 ∧ 0 < K.2 1 ∧ 60000 ≤ K.1
theorem C_sp {K : zK} {q : zF × zB} {o n d b m e : Int} {st al : Int → Int} (hK : KKq K) (h : BRs n d b) (hq : SCq K o n d b q) (hv : EVq m st al q) (he : e % sdU d = 0) (e1 : 0 ≤ e ∧ e ≤ 400000) : ∀ (f m1 : Nat) (cnt a : Int) (T : List Int) (F : zF) (B : zB), 0 ≤ a → a ≤ 400000 → a % sdU d = 0 → e - a ≤ sdU d * f → 0 ≤ cnt → cnt + f ≤ 51199 → f < m1 → TC q T F B → ∃ F' B', f_Scribe_writeSpan_5 K m1 cnt a 0 e F B = some (0, F', B') ∧ TC q (T ++ spT n d b m st al f a e) F' B' := by
  obtain ⟨k0, k7, k1, kf⟩ := hK
  obtain ⟨⟨q0, o0⟩, q1, q3, q4, p4, p5⟩ := hq
  obtain ⟨b1, b2, b3, _, b5, _⟩ := BRs_b h
  intro f
  induction f with
  | zero =>
    intro m1 cnt a T F B a0 a1 ha hf c0 cl hm w
    obtain ⟨p, rfl⟩ : ∃ p, m1 = p + 1 := ⟨m1 - 1, (by first | decide | omega)⟩
    have z : ¬ a < e := by simp at hf; omega
    refine ⟨F, B, ?_, by rw [spT, List.append_nil]; exact w⟩
    rw [f_Scribe_writeSpan_5, if_pos (by unfold r32; omega), if_neg (by first | decide | omega), if_pos (by unfold r32; omega), if_pos (by unfold r32; omega), if_pos (by first | decide | omega), f_Scribe_writeSpan_122]
  | succ f ih =>
    intro m1 cnt a T F B a0 a1 ha hf c0 cl hm w
    obtain ⟨p, rfl⟩ : ∃ p, m1 = p + 1 := ⟨m1 - 1, (by first | decide | omega)⟩
    by_cases z : a < e
    · obtain ⟨kb, n1, n2, n3, _⟩ := nx_b h a0 z ha he
      have f3 : F 7 0 3 = b := by rw [w.2.1 7 0 3 (by first | decide | omega)]; exact q3
      have f0 : F 7 0 0 = o := by rw [w.2.1 7 0 0 (by first | decide | omega)]; exact q0
      have zr : ∀ x, 0 ≤ x → x ≤ 400000 → zrm x b = x % b := fun x x0 x1 => zrm_e x0 (by unfold r32; omega) (by first | decide | omega) (by unfold r32; omega)
      have m0 := Int.emod_nonneg a (show b ≠ 0 by omega)
      have m2 := Int.emod_lt_of_pos a (show 0 < b by omega)
      have zm : 0 ≤ zmin (e - a) (b - a % b) ∧ zmin (e - a) (b - a % b) ≤ b := by unfold zmin; split <;> omega
      have m3 := Int.emod_nonneg (nxF n d b a e) (show b ≠ 0 by omega)
      have m4 := Int.emod_lt_of_pos (nxF n d b a e) (show 0 < b by omega)
      obtain ⟨F1, B1, e1', w1⟩ := C_wn (g := if e ≤ nxF n d b a e then 0 else 1) k0 k7 k1 (by first | decide | omega) q1 q4 hv.1 hv.2.1 hv.2.2 kb (by split <;> omega) w
      have g3 : F1 7 0 3 = b := by rw [w1.2.1 7 0 3 (by first | decide | omega)]; exact q3
      have g1 : F1 7 0 1 = 1 := by rw [w1.2.1 7 0 1 (by first | decide | omega)]; exact q1
      have ti : (if (if e ≤ nxF n d b a e then (0 : Int) else 1) = 1 ∧ ¬ m = 0 then [(126 : Int)] else []) = (if nxF n d b a e < e ∧ ¬ m = 0 then [126] else []) := by
        by_cases y : e ≤ nxF n d b a e
        · rw [if_pos y, if_neg (show ¬ ((0 : Int) = 1 ∧ _) from fun c => by have := c.1; omega), if_neg (show ¬ (nxF n d b a e < e ∧ _) from fun c => by have := c.1; omega)]
        · rw [if_neg y]
          by_cases u : m = 0
          · rw [if_neg (fun c => c.2 u), if_neg (fun c => c.2 u)]
          · rw [if_pos ⟨rfl, u⟩, if_pos ⟨(by first | decide | omega), u⟩]
      rw [ti] at w1
      obtain ⟨F2, B2, e2, w2⟩ : ∃ F2 B2, (if nxF n d b a e % b = 0 then zbind (f_ByteRow_putText K 1 13 F1 B1) (fun r24 F24 B24 => f_Scribe_writeSpan_116 (f_Scribe_writeSpan_5 K p) K (nxF n d b a e) cnt 0 e F24 B24) else f_Scribe_writeSpan_116 (f_Scribe_writeSpan_5 K p) K (nxF n d b a e) cnt 0 e F1 B1) = f_Scribe_writeSpan_5 K p (cnt + 1) (nxF n d b a e) 0 e F2 B2 ∧ TC q (T ++ (ntA m st al (kvF n d b a e) ++ ((if nxF n d b a e < e ∧ ¬ m = 0 then [126] else []) ++ [32])) ++ (if nxF n d b a e % b = 0 then [124, 10] else [])) F2 B2 := by
        by_cases y : nxF n d b a e % b = 0
        · obtain ⟨F2, B2, e2, w2⟩ := C_strg (s := 13) (U := [124, 10]) k0 (by first | decide | omega) (by decide) (by decide) (by decide) (by decide) w1
          rw [if_pos y, if_pos y, e2, zb_s]
          exact ⟨F2, B2, rfl, w2⟩
        · rw [if_neg y, if_neg y, List.append_nil]
          exact ⟨F1, B1, rfl, w1⟩
      have es : sdU d * ((f + 1 : Nat) : Int) = sdU d * f + sdU d := by rw [show ((f + 1 : Nat) : Int) = (f : Int) + 1 by omega, Int.mul_add, Int.mul_one]
      obtain ⟨F3, B3, e3, w3⟩ := ih p (cnt + 1) (nxF n d b a e) _ F2 B2 (by first | decide | omega) (by first | decide | omega) n3 (by first | decide | omega) (by first | decide | omega) (by first | decide | omega) (by first | decide | omega) w2
      refine ⟨F3, B3, ?_, ?_⟩
      · have e95 : f_Scribe_writeSpan_95 (f_Scribe_writeSpan_5 K p) K (nxF n d b a e) cnt 0 e 0 (kvF n d b a e) (if e ≤ nxF n d b a e then 0 else 1) F B = some (0, F3, B3) := by
          unfold f_Scribe_writeSpan_95
          rw [if_pos ⟨(by first | decide | omega), k7⟩, e1', zb_s, if_pos ⟨(by first | decide | omega), k7⟩, g3, if_pos (iI_n0 (by first | decide | omega) (by unfold r32; omega)), zr _ (by first | decide | omega) (by first | decide | omega), if_pos (by unfold r32; omega), g1, if_pos (show (0 : Int) ≤ 1 ∧ (1 : Int) < K.2 0 by omega), e2, e3]
        rw [f_Scribe_writeSpan_5, if_pos (by unfold r32; omega), if_neg (by first | decide | omega), if_pos (by unfold r32; omega), if_pos (by unfold r32; omega), if_neg (by first | decide | omega), if_pos ⟨(by first | decide | omega), k7⟩, f3, if_pos (by unfold r32; omega), if_neg (by first | decide | omega), if_pos (iI_n0 (by first | decide | omega) (by unfold r32; omega)), if_pos (by unfold r32; omega), zr a a0 a1, if_pos (by unfold r32; omega), f0, if_pos o0, w.2.2 8 o 0 4 (by first | decide | omega), w.2.2 8 o 0 5 (by first | decide | omega), p4, p5, C_next (by first | decide | omega) h.1 h.2.1 m0 (by first | decide | omega) zm.1 (by first | decide | omega), zb_s]
        have ek : nvF n d (a % b) (zmin (e - a) (b - a % b)) = kvF n d b a e := rfl
        rw [ek, C_fine kb.1 kb.2, zb_s]
        have en : a + fv (kvF n d b a e) = nxF n d b a e := rfl
        rw [en, if_pos (by unfold r32; omega), ← e95]
        by_cases y : e ≤ nxF n d b a e
        · rw [if_pos y, if_pos y]
        · rw [if_neg y, if_neg y]
      · rw [spT, if_pos z]
        simp only [List.append_assoc, List.singleton_append, List.cons_append, List.nil_append] at w3 ⊢
        exact w3
    · refine ⟨F, B, ?_, by rw [spT, if_neg z, List.append_nil]; exact w⟩
      rw [f_Scribe_writeSpan_5, if_pos (by unfold r32; omega), if_neg (by first | decide | omega), if_pos (by unfold r32; omega), if_pos (by unfold r32; omega), if_pos (by first | decide | omega), f_Scribe_writeSpan_122]
/-- a span written by the class -/
theorem C_span {K : zK} {q : zF × zB} {o n d b m a e : Int} {st al : Int → Int} {T : List Int} {F : zF} {B : zB} (hK : KKq K) (h : BRs n d b) (hq : SCq K o n d b q) (hv : EVq m st al q) (a0 : 0 ≤ a ∧ a ≤ 400000) (ha : a % sdU d = 0) (he : e % sdU d = 0) (e1 : 0 ≤ e ∧ e ≤ 100 * b) (w : TC q T F B) : ∃ F' B', f_Scribe_writeSpan K 0 a e F B = some (0, F', B') ∧ TC q (T ++ spX n d b m st al a e) F' B' := by
  have hb := BRs_b h
  have sd : (sdU d = 16 ∧ d = 2) ∨ (sdU d = 4 ∧ d ≠ 2) := by unfold sdU; split <;> omega
  have s1 : e - a ≤ sdU d * (((e - a) / sdU d).toNat : Int) := by
    rcases sd with ⟨g, _⟩ | ⟨g, _⟩ <;> rw [g] at ha he ⊢ <;> omega
  have s2 : e - a ≤ sdU d * ((e - a).toNat : Int) := by
    rcases sd with ⟨g, _⟩ | ⟨g, _⟩ <;> rw [g] at ha he ⊢ <;> omega
  have s3 : (((e - a) / sdU d).toNat : Int) ≤ 38400 := by
    rcases sd with ⟨g, g'⟩ | ⟨g, g'⟩ <;> rw [g] at ha he ⊢ <;> omega
  obtain ⟨F1, B1, x1, x2⟩ := C_sp (m := m) (st := st) (al := al) hK h hq hv he (by first | decide | omega) ((e - a) / sdU d).toNat K.1 0 a T F B a0.1 a0.2 ha s1 (by first | decide | omega) (by first | decide | omega) (by have := hK.2.2.2; omega) w
  refine ⟨F1, B1, x1, ?_⟩
  unfold spX
  rw [← spT_i (m := m) (st := st) (al := al) h he ((e - a) / sdU d).toNat (e - a).toNat a a0.1 ha s1 s2]
  exact x2
end
end
section
section
/-! ===== sounds that begin at one place ===== -/
def gplF (g D t : Int) : Int := (2 * t * g + 4 * D) / (8 * D)
/-- what is known of the sounds of an opened file -/
def DTq (g D N : Int) (bg en tn tk : Int → Int) : Prop := (g = 4 ∨ g = 8 ∨ g = 16 ∨ g = 32) ∧ (1 ≤ D ∧ D ≤ 960) ∧ (1 ≤ N ∧ N ≤ 400) ∧ (∀ i, 0 ≤ i → i < N → (0 ≤ tk i ∧ tk i ≤ 7) ∧ (0 ≤ tn i ∧ tn i < 128) ∧ (0 ≤ bg i ∧ bg i ≤ 402921619456) ∧ (0 ≤ en i ∧ en i ≤ 402921619456)) ∧ (∀ i, 0 ≤ i → i + 1 < N → tk i ≤ tk (i + 1) ∧ (tk i = tk (i + 1) → bg i ≤ bg (i + 1)))
theorem gpl_b {g D t : Int} (hg : g = 4 ∨ g = 8 ∨ g = 16 ∨ g = 32) (hD : 1 ≤ D ∧ D ≤ 960) (ht : 0 ≤ t ∧ t ≤ 402921619456) : 0 ≤ gplF g D t ∧ gplF g D t ≤ 30000000000000 := by
  have x0 : 0 ≤ 2 * t * g + 4 * D ∧ 2 * t * g + 4 * D ≤ 30000000000000 := by rcases hg with rfl | rfl | rfl | rfl <;> omega
  unfold gplF
  exact ⟨Int.ediv_nonneg x0.1 (by first | decide | omega), Int.le_trans (Int.ediv_le_self _ x0.1) x0.2⟩
theorem gpl_m {g D t u : Int} (hg : g = 4 ∨ g = 8 ∨ g = 16 ∨ g = 32) (hD : 1 ≤ D ∧ D ≤ 960) (h : t ≤ u) : gplF g D t ≤ gplF g D u := by
  unfold gplF
  refine Int.ediv_le_ediv (by first | decide | omega) ?_
  rcases hg with rfl | rfl | rfl | rfl <;> omega
/-- the file as the scribe has it -/
def CFq (K : zK) (o g D N : Int) (bg en tn tk : Int → Int) (F : zF) (B : zB) : Prop := (F 7 0 0 = o ∧ 0 ≤ o ∧ o < K.2 8) ∧ F 7 0 2 = g ∧ B 8 o 0 1 = D ∧ F 8 o 2 = N ∧ ∀ i, 0 ≤ i → i < N → B 8 o 220 i = tk i ∧ B 8 o 222 i = tn i ∧ B 8 o 224 i = bg i ∧ B 8 o 225 i = en i
theorem CFq_f {K : zK} {o g D N : Int} {bg en tn tk : Int → Int} {F F' : zF} {B B' : zB} (h : CFq K o g D N bg en tn tk F B) (f0 : F' 7 0 0 = F 7 0 0) (f2 : F' 7 0 2 = F 7 0 2) (f8 : F' 8 o 2 = F 8 o 2) (b : ∀ k x, B' 8 o k x = B 8 o k x) : CFq K o g D N bg en tn tk F' B' := by
  obtain ⟨h1, h2, h3, h4, h5⟩ := h
  refine ⟨by rw [f0]; exact h1, by rw [f2]; exact h2, by rw [b]; exact h3, by rw [f8]; exact h4, fun i i0 i1 => ?_⟩
  rw [b, b, b, b]; exact h5 i i0 i1
theorem C_gp {K : zK} {o g D N : Int} {bg en tn tk : Int → Int} {F : zF} {B : zB} {t : Int} (h7 : 0 < K.2 7) (dq : DTq g D N bg en tn tk) (h : CFq K o g D N bg en tn tk F B) (ht : 0 ≤ t ∧ t ≤ 402921619456) : f_Scribe_gridPlace K 0 t F B = some (gplF g D t, F, B) := by
  obtain ⟨hg, hD, _⟩ := dq
  obtain ⟨h1, h2, h3, h4, h5⟩ := h
  have zm : zmax D 1 = D := by unfold zmax; split <;> omega
  have x0 : 0 ≤ 2 * t * g + 4 * D ∧ 2 * t * g + 4 * D ≤ 30000000000000 := by rcases hg with rfl | rfl | rfl | rfl <;> omega
  unfold f_Scribe_gridPlace gplF
  rw [if_pos ⟨(by first | decide | omega), h7⟩, h1.1, if_pos h1.2, h3, zm, h2, if_pos (by unfold r32; omega), if_pos (by unfold r32; omega), if_pos (by unfold r32; omega), if_pos (lI_n0 (by first | decide | omega) (by unfold r64; omega)), zldv_e x0.1 (by first | decide | omega) (by first | decide | omega) (by first | decide | omega)]
/-- the first sound behind s, of those before z, that begins at another place than v -/
def grN (gB : Int → Int) (z v : Int) : Nat → Int → Int
  | 0, t => t
  | f + 1, t => if t < z ∧ gB t = v then grN gB z v f (t + 1) else t
def mxR (gE : Int → Int) : Nat → Int → Int → Int
  | 0, _, a => a
  | f + 1, t, a => mxR gE f (t + 1) (zmax a (gE t))
theorem grN_p {gB : Int → Int} {z v : Int} : ∀ (f : Nat) (t : Int), z - t ≤ f → t ≤ z → t ≤ grN gB z v f t ∧ grN gB z v f t ≤ z ∧ (∀ i, t ≤ i → i < grN gB z v f t → gB i = v) ∧ (grN gB z v f t < z → ¬ gB (grN gB z v f t) = v) := by
  intro f
  induction f with
  | zero =>
    intro t h1 h2
    rw [grN]
    exact ⟨(by first | decide | omega), h2, fun i a b => (by first | decide | omega), fun a => (by first | decide | omega)⟩
  | succ f ih =>
    intro t h1 h2
    rw [grN]
    by_cases c : t < z ∧ gB t = v
    · rw [if_pos c]
      obtain ⟨a1, a2, a3, a4⟩ := ih (t + 1) (by first | decide | omega) (by first | decide | omega)
      refine ⟨(by first | decide | omega), a2, fun i b1 b2 => ?_, a4⟩
      by_cases e : i = t
      · rw [e]; exact c.2
      · exact a3 i (by first | decide | omega) b2
    · rw [if_neg c]
      exact ⟨(by first | decide | omega), h2, fun i a b => (by first | decide | omega), fun a e => c ⟨a, e⟩⟩
theorem grN_i {gB : Int → Int} {z v : Int} : ∀ (f f' : Nat) (t : Int), z - t ≤ f → z - t ≤ f' → grN gB z v f t = grN gB z v f' t := by
  intro f
  induction f with
  | zero =>
    intro f' t h1 h2
    cases f' with
    | zero => rfl
    | succ f' => rw [grN, grN, if_neg (by first | decide | omega)]
  | succ f ih =>
    intro f' t h1 h2
    cases f' with
    | zero => rw [grN, grN, if_neg (by first | decide | omega)]
    | succ f' =>
      rw [grN, grN]
      by_cases c : t < z ∧ gB t = v
      · rw [if_pos c, if_pos c]; exact ih f' (t + 1) (by first | decide | omega) (by first | decide | omega)
      · rw [if_neg c, if_neg c]
theorem mxR_b {gE : Int → Int} {M : Int} : ∀ (f : Nat) (t a : Int), a ≤ M → (∀ i, t ≤ i → i < t + f → gE i ≤ M) → a ≤ mxR gE f t a ∧ mxR gE f t a ≤ M := by
  intro f
  induction f with
  | zero => intro t a h1 h2; rw [mxR]; omega
  | succ f ih =>
    intro t a h1 h2
    have e := h2 t (by first | decide | omega) (by first | decide | omega)
    have zm : a ≤ zmax a (gE t) ∧ zmax a (gE t) ≤ M := by unfold zmax; split <;> omega
    have := ih (t + 1) (zmax a (gE t)) zm.2 (fun i a b => h2 i (by first | decide | omega) (by first | decide | omega))
    rw [mxR]; omega
theorem mxR_s {gE : Int → Int} : ∀ (f : Nat) (t a : Int), mxR gE (f + 1) t a = zmax (mxR gE f t a) (gE (t + f)) := by
  intro f
  induction f with
  | zero => intro t a; rw [mxR, mxR, mxR]; simp
  | succ f ih =>
    intro t a
    rw [mxR, ih (t + 1) (zmax a (gE t)), mxR, show t + 1 + (f : Int) = t + ((f + 1 : Nat) : Int) by omega]
/-- where the group that begins with s ends, and how long it sounds -/
def nxG (gB : Int → Int) (s z : Int) : Int := grN gB z (gB s) 400 s
def toG (gB gE : Int → Int) (s z : Int) : Int := if nxG gB s z < z then zmin (mxR gE (nxG gB s z - s).toNat s (gB s + 1)) (gB (nxG gB s z)) else mxR gE (nxG gB s z - s).toNat s (gB s + 1)
theorem nxG_p {gB : Int → Int} {s z : Int} (h : s < z) (hz : z ≤ 400) (s0 : 0 ≤ s) : s < nxG gB s z ∧ nxG gB s z ≤ z ∧ (∀ i, s ≤ i → i < nxG gB s z → gB i = gB s) ∧ (nxG gB s z < z → ¬ gB (nxG gB s z) = gB s) := by
  have h1 := grN_p (gB := gB) (z := z) (v := gB s) 400 s (by first | decide | omega) (by first | decide | omega)
  have h2 : nxG gB s z = grN gB z (gB s) 399 (s + 1) := by
    unfold nxG
    rw [grN, if_pos ⟨h, rfl⟩]
  have h3 := grN_p (gB := gB) (z := z) (v := gB s) 399 (s + 1) (by first | decide | omega) (by first | decide | omega)
  rw [← h2] at h3
  exact ⟨(by first | decide | omega), h1.2.1, h1.2.2.1, h1.2.2.2⟩
/-- the tones of the sounds s .. t - 1 -/
def HTn (tn : Int → Int) (s t : Int) (B : zB) : Prop := (∀ i, s ≤ i → i < t → B 7 0 8 (tn i) = 1) ∧ (∀ x, 0 ≤ x → x < 128 → B 7 0 8 x = 0 ∨ (B 7 0 8 x = 1 ∧ ∃ i, s ≤ i ∧ i < t ∧ tn i = x))
def gthF (F F' : zF) : Prop := ∀ c y k, ¬ (c = 7 ∧ y = 0 ∧ 5 ≤ k ∧ k ≤ 7) → F' c y k = F c y k
def gthB (B B' : zB) : Prop := ∀ c y k x, ¬ (c = 7 ∧ y = 0 ∧ k = 8) → B' c y k x = B c y k x
section
variable {K : zK} {o g D N : Int} {bg en tn tk : Int → Int}
theorem C_g158 {z t v a : Int} {F : zF} {B : zB} (h7 : 0 < K.2 7) (dq : DTq g D N bg en tn tk) (h : CFq K o g D N bg en tn tk F B) (hz : z ≤ N) (t0 : 0 ≤ t ∧ t ≤ z) (f7 : F 7 0 7 = t) (f6 : F 7 0 6 = a) (ha : 0 ≤ a ∧ a ≤ 40000000000000) : f_Scribe_gatherEvent_158 K 0 z F B = some (0, zup3 F 7 0 6 (if t < z then zmin a (gplF g D (bg t)) else a), B) := by
  have h' := h
  obtain ⟨h1, h2, h3, h4, h5⟩ := h'
  have hN := dq.2.2.1
  unfold f_Scribe_gatherEvent_158 f_Scribe_gatherEvent_195
  rw [if_pos ⟨(by first | decide | omega), h7⟩, f7, if_pos (by unfold r32; omega), if_pos (by unfold r32; omega)]
  by_cases c : z ≤ t
  · rw [if_pos c, if_neg (by first | decide | omega)]
    have : zup3 F 7 0 6 a = F := by
      funext c' y k
      rw [zup3_v]
      by_cases e : c' = 7 ∧ y = 0 ∧ k = 6
      · rw [if_pos e, e.1, e.2.1, e.2.2, f6]
      · rw [if_neg e]
    rw [this]
  · obtain ⟨_, _, b1, _⟩ := h5 t t0.1 (by first | decide | omega)
    have bb := (dq.2.2.2.1 t t0.1 (by first | decide | omega)).2.2.1
    have gb := gpl_b (t := bg t) dq.1 dq.2.1 bb
    rw [if_neg c, h1.1, if_pos h1.2, if_pos (by first | decide | omega), b1, C_gp h7 dq h bb, zb_s, f6, if_pos (by unfold r64; omega), if_pos (by unfold r64; omega), if_pos (by first | decide | omega)]
theorem C_g58 {z s : Int} (h7 : 0 < K.2 7) (dq : DTq g D N bg en tn tk) (hz : z ≤ N) (hs : 0 ≤ s ∧ s < z) : ∀ (f m : Nat) (t a : Int) (F : zF) (B : zB), z - t ≤ f → f < m → s ≤ t → t ≤ z → CFq K o g D N bg en tn tk F B → F 7 0 7 = t → F 7 0 6 = a → F 7 0 5 = gplF g D (bg s) → a = mxR (fun i => gplF g D (en i)) (t - s).toNat s (gplF g D (bg s) + 1) → HTn tn s t B → ∃ F' B', f_Scribe_gatherEvent_58 K m 0 z F B = some (0, F', B') ∧ gthF F F' ∧ gthB B B' ∧ F' 7 0 5 = gplF g D (bg s) ∧ F' 7 0 7 = grN (fun i => gplF g D (bg i)) z (gplF g D (bg s)) f t ∧ F' 7 0 6 = (if grN (fun i => gplF g D (bg i)) z (gplF g D (bg s)) f t < z then zmin (mxR (fun i => gplF g D (en i)) (grN (fun i => gplF g D (bg i)) z (gplF g D (bg s)) f t - s).toNat s (gplF g D (bg s) + 1)) (gplF g D (bg (grN (fun i => gplF g D (bg i)) z (gplF g D (bg s)) f t))) else mxR (fun i => gplF g D (en i)) (grN (fun i => gplF g D (bg i)) z (gplF g D (bg s)) f t - s).toNat s (gplF g D (bg s) + 1)) ∧ HTn tn s (grN (fun i => gplF g D (bg i)) z (gplF g D (bg s)) f t) B' := by
  have hN := dq.2.2.1
  have hb : ∀ i, 0 ≤ i → i < N → (0 ≤ gplF g D (bg i) ∧ gplF g D (bg i) ≤ 30000000000000) ∧ (0 ≤ gplF g D (en i) ∧ gplF g D (en i) ≤ 30000000000000) := fun i i0 i1 => ⟨gpl_b dq.1 dq.2.1 (dq.2.2.2.1 i i0 i1).2.2.1, gpl_b dq.1 dq.2.1 (dq.2.2.2.1 i i0 i1).2.2.2⟩
  have bs := (hb s hs.1 (by first | decide | omega)).1
  have ab : ∀ t, s ≤ t → t ≤ z → 0 ≤ mxR (fun i => gplF g D (en i)) (t - s).toNat s (gplF g D (bg s) + 1) ∧ mxR (fun i => gplF g D (en i)) (t - s).toNat s (gplF g D (bg s) + 1) ≤ 40000000000000 := fun t t0 t1 => by
    have := mxR_b (gE := fun i => gplF g D (en i)) (M := 40000000000000) (t - s).toNat s (gplF g D (bg s) + 1) (by first | decide | omega) (fun i i0 i1 => by have := (hb i (by first | decide | omega) (by first | decide | omega)).2; show gplF g D (en i) ≤ _; omega)
    omega
  -- the end of the group
  have fin : ∀ (t a : Int) (F : zF) (B : zB), s ≤ t → t ≤ z → CFq K o g D N bg en tn tk F B → F 7 0 7 = t → F 7 0 6 = a → F 7 0 5 = gplF g D (bg s) → a = mxR (fun i => gplF g D (en i)) (t - s).toNat s (gplF g D (bg s) + 1) → HTn tn s t B → ∃ F' B', f_Scribe_gatherEvent_158 K 0 z F B = some (0, F', B') ∧ gthF F F' ∧ gthB B B' ∧ F' 7 0 5 = gplF g D (bg s) ∧ F' 7 0 7 = t ∧ F' 7 0 6 = (if t < z then zmin (mxR (fun i => gplF g D (en i)) (t - s).toNat s (gplF g D (bg s) + 1)) (gplF g D (bg t)) else mxR (fun i => gplF g D (en i)) (t - s).toNat s (gplF g D (bg s) + 1)) ∧ HTn tn s t B' := fun t a F B st tz hc f7 f6 f5 ea ht => by
    have := ab t st tz
    refine ⟨_, B, C_g158 (v := 0) h7 dq hc hz (by first | decide | omega) f7 f6 (by first | decide | omega), fun c y k n => by rw [zup3_v, if_neg (by first | decide | omega)], fun _ _ _ _ _ => rfl, by rw [zup3_v, if_neg (by first | decide | omega)]; exact f5, by rw [zup3_v, if_neg (by first | decide | omega)]; exact f7, by rw [zup3_v, if_pos (by first | decide | omega), ea], ht⟩
  intro f
  induction f with
  | zero =>
    intro m t a F B hf hm st tz hc f7 f6 f5 ea ht
    obtain ⟨p, rfl⟩ : ∃ p, m = p + 1 := ⟨m - 1, (by first | decide | omega)⟩
    obtain ⟨F1, B1, x1, x2⟩ := fin t a F B st tz hc f7 f6 f5 ea ht
    refine ⟨F1, B1, ?_, by rw [grN]; exact x2⟩
    rw [f_Scribe_gatherEvent_58, if_pos ⟨(by first | decide | omega), h7⟩, f7, if_pos (by unfold r32; omega), if_pos (by unfold r32; omega), if_pos (by first | decide | omega), x1]
  | succ f ih =>
    intro m t a F B hf hm st tz hc f7 f6 f5 ea ht
    obtain ⟨p, rfl⟩ : ∃ p, m = p + 1 := ⟨m - 1, (by first | decide | omega)⟩
    have hc' := hc
    obtain ⟨h1, h2, h3, h4, h5⟩ := hc'
    rw [grN]
    by_cases c : t < z ∧ gplF g D (bg t) = gplF g D (bg s)
    · obtain ⟨_, b2, b3, b4⟩ := h5 t (by first | decide | omega) (by first | decide | omega)
      obtain ⟨_, d2, d3, d4⟩ := dq.2.2.2.1 t (by first | decide | omega) (by first | decide | omega)
      have hbt := hb t (by first | decide | omega) (by first | decide | omega)
      have az := ab t st tz
      have za : zand (tn t) 127 = tn t := by rw [(rm128 d2.1 (by first | decide | omega)).2]; omega
      have hc2 : CFq K o g D N bg en tn tk (zup3 (zup3 F 7 0 6 (zmax a (gplF g D (en t)))) 7 0 7 (t + 1)) (zup4 B 7 0 8 (tn t) 1) := CFq_f hc (by rw [zup3_v, if_neg (by first | decide | omega), zup3_v, if_neg (by first | decide | omega)]) (by rw [zup3_v, if_neg (by first | decide | omega), zup3_v, if_neg (by first | decide | omega)]) (by rw [zup3_v, if_neg (by first | decide | omega), zup3_v, if_neg (by first | decide | omega)]) (fun k x => by rw [zup4_v, if_neg (by first | decide | omega)])
      obtain ⟨F1, B1, x1, x2, x3, x4⟩ := ih p (t + 1) (zmax a (gplF g D (en t))) _ _ (by first | decide | omega) (by first | decide | omega) (by first | decide | omega) (by first | decide | omega) hc2 (by rw [zup3_v, if_pos (by first | decide | omega)]) (by rw [zup3_v, if_neg (by first | decide | omega), zup3_v, if_pos (by first | decide | omega)]) (by rw [zup3_v, if_neg (by first | decide | omega), zup3_v, if_neg (by first | decide | omega)]; exact f5) (by
        rw [show (t + 1 - s).toNat = (t - s).toNat + 1 by omega, mxR_s, ← ea, show s + ((t - s).toNat : Int) = t by omega]) ⟨fun i i0 i1 => by
          rw [zup4_v]
          by_cases e : tn i = tn t
          · rw [if_pos (by first | decide | omega)]
          · rw [if_neg (by first | decide | omega)]
            by_cases e' : i = t
            · rw [e'] at e; exact absurd rfl e
            · exact ht.1 i i0 (by first | decide | omega), fun x x0 x1 => by
          rw [zup4_v]
          by_cases e : x = tn t
          · rw [if_pos (by first | decide | omega)]; exact Or.inr ⟨rfl, t, (by first | decide | omega), (by first | decide | omega), e.symm⟩
          · rw [if_neg (by first | decide | omega)]
            rcases ht.2 x x0 x1 with q | ⟨q, i, i0, i1, i2⟩
            · exact Or.inl q
            · exact Or.inr ⟨q, i, i0, (by first | decide | omega), i2⟩⟩
      refine ⟨F1, B1, ?_, fun c' y k n => ?_, fun c' y k x n => ?_, by rw [if_pos c]; exact x4⟩
      · rw [f_Scribe_gatherEvent_58, if_pos ⟨(by first | decide | omega), h7⟩, f7, if_pos (by unfold r32; omega), if_pos (by unfold r32; omega), if_neg (by first | decide | omega), h1.1, if_pos h1.2, if_pos (by first | decide | omega), b3, C_gp h7 dq hc d3, zb_s, if_pos (by unfold r64; omega), f5, if_pos (by unfold r64; omega), if_pos (zcmp_0.mpr c.2), h1.1, if_pos h1.2, f7, if_pos (by first | decide | omega), b4, C_gp h7 dq hc d4, zb_s, f6, if_pos (by unfold r64; omega), if_pos (by unfold r64; omega), h1.1, if_pos h1.2, f7, if_pos (by first | decide | omega), b2, za, if_pos (by first | decide | omega)]
        exact x1
      · rw [x2 c' y k n, zup3_v, if_neg (by first | decide | omega), zup3_v, if_neg (by first | decide | omega)]
      · rw [x3 c' y k x n, zup4_v, if_neg (by first | decide | omega)]
    · obtain ⟨F1, B1, x1, x2⟩ := fin t a F B st tz hc f7 f6 f5 ea ht
      refine ⟨F1, B1, ?_, by rw [if_neg c]; exact x2⟩
      rw [f_Scribe_gatherEvent_58, if_pos ⟨(by first | decide | omega), h7⟩, f7, if_pos (by unfold r32; omega), if_pos (by unfold r32; omega)]
      by_cases y : z ≤ t
      · rw [if_pos y, x1]
      · obtain ⟨_, b2, b3, b4⟩ := h5 t (by first | decide | omega) (by first | decide | omega)
        obtain ⟨_, d2, d3, d4⟩ := dq.2.2.2.1 t (by first | decide | omega) (by first | decide | omega)
        have hbt := hb t (by first | decide | omega) (by first | decide | omega)
        rw [if_neg y, h1.1, if_pos h1.2, if_pos (by first | decide | omega), b3, C_gp h7 dq hc d3, zb_s, if_pos (by unfold r64; omega), f5, if_pos (by unfold r64; omega), if_neg (fun x => c ⟨(by first | decide | omega), zcmp_0.mp x⟩), x1]
end
end
end
section
section
/-! ===== the class: groups gathered, tracks, the last place ===== -/
section
variable {K : zK} {o g D N : Int} {bg en tn tk : Int → Int}
theorem C_g36 {z s : Int} (h7 : 0 < K.2 7) (hK : 600 ≤ K.1) (dq : DTq g D N bg en tn tk) (hz : z ≤ N) (hs : 0 ≤ s ∧ s < z) : ∀ (d m : Nat) (i : Int) (F : zF) (B : zB), i + d = 128 → 0 ≤ i → d < m → CFq K o g D N bg en tn tk F B → F 7 0 7 = s → F 7 0 6 = gplF g D (bg s) + 1 → F 7 0 5 = gplF g D (bg s) → (∀ x, 0 ≤ x → x < i → B 7 0 8 x = 0) → ∃ F' B', f_Scribe_gatherEvent_36 K m i 0 z F B = some (0, F', B') ∧ gthF F F' ∧ gthB B B' ∧ F' 7 0 5 = gplF g D (bg s) ∧ F' 7 0 7 = nxG (fun i => gplF g D (bg i)) s z ∧ F' 7 0 6 = toG (fun i => gplF g D (bg i)) (fun i => gplF g D (en i)) s z ∧ HTn tn s (nxG (fun i => gplF g D (bg i)) s z) B' := by
  have hN := dq.2.2.1
  intro d
  induction d with
  | zero =>
    intro m i F B e i0 hm hc f7 f6 f5 hx
    obtain ⟨p, rfl⟩ : ∃ p, m = p + 1 := ⟨m - 1, (by first | decide | omega)⟩
    obtain ⟨F1, B1, x1, x2⟩ := C_g58 h7 dq hz hs 400 K.1 s (gplF g D (bg s) + 1) F B (by first | decide | omega) (by first | decide | omega) (by first | decide | omega) (by first | decide | omega) hc f7 f6 f5 (by rw [show (s - s).toNat = 0 by omega, mxR]) ⟨fun i a b => (by first | decide | omega), fun x x0 x1 => Or.inl (hx x x0 (by first | decide | omega))⟩
    refine ⟨F1, B1, ?_, x2⟩
    rw [f_Scribe_gatherEvent_36, if_pos ⟨(by first | decide | omega), h7⟩, if_pos (by unfold r32; omega), if_pos (by first | decide | omega), x1]
  | succ d ih =>
    intro m i F B e i0 hm hc f7 f6 f5 hx
    obtain ⟨p, rfl⟩ : ∃ p, m = p + 1 := ⟨m - 1, (by first | decide | omega)⟩
    obtain ⟨F1, B1, x1, x2, x3, x4⟩ := ih p (i + 1) F (zup4 B 7 0 8 i 0) (by first | decide | omega) (by first | decide | omega) (by first | decide | omega) (CFq_f hc rfl rfl rfl (fun k x => by rw [zup4_v, if_neg (by first | decide | omega)])) f7 f6 f5 (fun x x0 x1 => by
      rw [zup4_v]
      by_cases c : x = i
      · rw [if_pos (by first | decide | omega)]
      · rw [if_neg (by first | decide | omega)]; exact hx x x0 (by first | decide | omega))
    refine ⟨F1, B1, ?_, x2, fun c y k x n => by rw [x3 c y k x n, zup4_v, if_neg (by first | decide | omega)], x4⟩
    rw [f_Scribe_gatherEvent_36, if_pos ⟨(by first | decide | omega), h7⟩, if_pos (by unfold r32; omega), if_neg (by first | decide | omega), if_pos (by first | decide | omega), x1]
theorem C_ga {z s : Int} {F : zF} {B : zB} (h7 : 0 < K.2 7) (hK : 600 ≤ K.1) (dq : DTq g D N bg en tn tk) (hz : z ≤ N) (hs : 0 ≤ s ∧ s < z) (hc : CFq K o g D N bg en tn tk F B) : ∃ F' B', f_Scribe_gatherEvent K 0 s z F B = some (0, F', B') ∧ gthF F F' ∧ gthB B B' ∧ F' 7 0 5 = gplF g D (bg s) ∧ F' 7 0 7 = nxG (fun i => gplF g D (bg i)) s z ∧ F' 7 0 6 = toG (fun i => gplF g D (bg i)) (fun i => gplF g D (en i)) s z ∧ HTn tn s (nxG (fun i => gplF g D (bg i)) s z) B' := by
  have hN := dq.2.2.1
  have hc' := hc
  obtain ⟨h1, h2, h3, h4, h5⟩ := hc'
  obtain ⟨_, _, b3, _⟩ := h5 s hs.1 (by first | decide | omega)
  have d3 := (dq.2.2.2.1 s hs.1 (by first | decide | omega)).2.2.1
  have hc2 : CFq K o g D N bg en tn tk (zup3 (zup3 (zup3 F 7 0 5 (gplF g D (bg s))) 7 0 6 (gplF g D (bg s) + 1)) 7 0 7 s) B := CFq_f hc (by rw [zup3_v, if_neg (by first | decide | omega), zup3_v, if_neg (by first | decide | omega), zup3_v, if_neg (by first | decide | omega)]) (by rw [zup3_v, if_neg (by first | decide | omega), zup3_v, if_neg (by first | decide | omega), zup3_v, if_neg (by first | decide | omega)]) (by rw [zup3_v, if_neg (by first | decide | omega), zup3_v, if_neg (by first | decide | omega), zup3_v, if_neg (by first | decide | omega)]) (fun _ _ => rfl)
  obtain ⟨F1, B1, x1, x2, x3⟩ := C_g36 (z := z) (s := s) h7 hK dq hz hs 128 K.1 0 _ B (by first | decide | omega) (by first | decide | omega) (by first | decide | omega) hc2 (by rw [zup3_v, if_pos (by first | decide | omega)]) (by rw [zup3_v, if_neg (by first | decide | omega), zup3_v, if_pos (by first | decide | omega)]) (by rw [zup3_v, if_neg (by first | decide | omega), zup3_v, if_neg (by first | decide | omega), zup3_v, if_pos (by first | decide | omega)]) (fun x _ _ => (by first | decide | omega))
  refine ⟨F1, B1, ?_, fun c y k n => ?_, x3⟩
  · unfold f_Scribe_gatherEvent
    rw [if_pos ⟨(by first | decide | omega), h7⟩, h1.1, if_pos h1.2, if_pos (by first | decide | omega), b3, C_gp h7 dq hc d3, zb_s, x1]
  · rw [x2 c y k n, zup3_v, if_neg (by first | decide | omega), zup3_v, if_neg (by first | decide | omega), zup3_v, if_neg (by first | decide | omega)]
theorem C_te12 {s : Int} {F : zF} {B : zB} (h7 : 0 < K.2 7) (dq : DTq g D N bg en tn tk) (hs : 0 ≤ s ∧ s < N) (hc : CFq K o g D N bg en tn tk F B) : ∀ (f m : Nat) (t : Int), N - t ≤ f → f < m → s ≤ t → t ≤ N → f_Scribe_trackEnd_12 K m t o 0 s F B = some (grN tk N (tk s) f t, F, B) := by
  have hN := dq.2.2.1
  obtain ⟨h1, h2, h3, h4, h5⟩ := hc
  intro f
  induction f with
  | zero =>
    intro m t hf hm st tz
    obtain ⟨p, rfl⟩ : ∃ p, m = p + 1 := ⟨m - 1, (by first | decide | omega)⟩
    rw [f_Scribe_trackEnd_12, if_pos ⟨(by first | decide | omega), h7⟩, h1.1, if_pos h1.2, if_pos (by unfold r32; omega), h4, if_pos (by unfold r32; omega), if_pos (by first | decide | omega), f_Scribe_trackEnd_39, grN]
  | succ f ih =>
    intro m t hf hm st tz
    obtain ⟨p, rfl⟩ : ∃ p, m = p + 1 := ⟨m - 1, (by first | decide | omega)⟩
    rw [f_Scribe_trackEnd_12, if_pos ⟨(by first | decide | omega), h7⟩, h1.1, if_pos h1.2, if_pos (by unfold r32; omega), h4, if_pos (by unfold r32; omega), grN]
    by_cases c : N ≤ t
    · rw [if_pos c, if_neg (by first | decide | omega), f_Scribe_trackEnd_39]
    · have b1 := (h5 t (by first | decide | omega) (by first | decide | omega)).1
      have b2 := (h5 s hs.1 hs.2).1
      have d1 := (dq.2.2.2.1 t (by first | decide | omega) (by first | decide | omega)).1
      have d2 := (dq.2.2.2.1 s hs.1 hs.2).1
      rw [if_neg c, if_pos h1.2, if_pos (by first | decide | omega), if_pos (by first | decide | omega), b1, b2, if_pos (by unfold r64; omega), if_pos (by unfold r64; omega)]
      by_cases y : tk t = tk s
      · rw [if_pos (zcmp_0.mpr y), if_pos ⟨(by first | decide | omega), y⟩, ih p (t + 1) (by first | decide | omega) (by first | decide | omega) (by first | decide | omega) (by first | decide | omega)]
      · rw [if_neg (fun x => y (zcmp_0.mp x)), if_neg (fun x => y x.2), f_Scribe_trackEnd_39]
theorem C_te {s : Int} {F : zF} {B : zB} (h7 : 0 < K.2 7) (hK : 600 ≤ K.1) (dq : DTq g D N bg en tn tk) (hs : 0 ≤ s ∧ s < N) (hc : CFq K o g D N bg en tn tk F B) : f_Scribe_trackEnd K 0 s F B = some (nxG tk s N, F, B) := by
  have hN := dq.2.2.1
  unfold f_Scribe_trackEnd
  rw [if_pos ⟨(by first | decide | omega), h7⟩, hc.1.1, if_pos hc.1.2]
  exact C_te12 h7 dq hs hc 400 K.1 s (by first | decide | omega) (by first | decide | omega) (by first | decide | omega) (by first | decide | omega)
/-- where the last group of s .. z - 1 ends -/
def lsG (gB gE : Int → Int) (z : Int) : Nat → Int → Int → Int
  | 0, _, a => a
  | f + 1, s, a => if s < z then lsG gB gE z f (nxG gB s z) (toG gB gE s z) else a
theorem to_b {z s : Int} (dq : DTq g D N bg en tn tk) (hz : z ≤ N) (hs : 0 ≤ s ∧ s < z) : 0 ≤ toG (fun i => gplF g D (bg i)) (fun i => gplF g D (en i)) s z ∧ toG (fun i => gplF g D (bg i)) (fun i => gplF g D (en i)) s z ≤ 40000000000000 := by
  have hN := dq.2.2.1
  have hb : ∀ i, 0 ≤ i → i < N → (0 ≤ gplF g D (bg i) ∧ gplF g D (bg i) ≤ 30000000000000) ∧ (0 ≤ gplF g D (en i) ∧ gplF g D (en i) ≤ 30000000000000) := fun i i0 i1 => ⟨gpl_b dq.1 dq.2.1 (dq.2.2.2.1 i i0 i1).2.2.1, gpl_b dq.1 dq.2.1 (dq.2.2.2.1 i i0 i1).2.2.2⟩
  have bs := (hb s hs.1 (by first | decide | omega)).1
  obtain ⟨p1, p2, _, _⟩ := nxG_p (gB := fun i => gplF g D (bg i)) hs.2 (by first | decide | omega) hs.1
  have mb := mxR_b (gE := fun i => gplF g D (en i)) (M := 40000000000000) (nxG (fun i => gplF g D (bg i)) s z - s).toNat s (gplF g D (bg s) + 1) (by first | decide | omega) (fun i i0 i1 => by have := (hb i (by first | decide | omega) (by first | decide | omega)).2; show gplF g D (en i) ≤ _; omega)
  simp only [toG]
  split
  · rename_i c
    have := (hb (nxG (fun i => gplF g D (bg i)) s z) (by first | decide | omega) (by first | decide | omega)).1
    unfold zmin
    split <;> omega
  · omega
theorem C_l41 {rec' : Int → Int → Int → Int → zF → zB → zO} {z first l3 l1 : Int} (h7 : 0 < K.2 7) (hK : 600 ≤ K.1) (dq : DTq g D N bg en tn tk) (hz : z ≤ N) : ∀ (f m : Nat) (n s a : Int) (F : zF) (B : zB), z - s ≤ f → f < m → 0 ≤ n → n ≤ s → 0 ≤ s → s ≤ z → CFq K o g D N bg en tn tk F B → F 7 0 7 = s → F 7 0 6 = a → (0 ≤ a ∧ a ≤ 40000000000000) → ∃ F' B', f_Scribe_lastPlace_41 rec' K m n z first l3 l1 0 F B = f_Scribe_lastPlace_78 rec' K first l3 l1 0 F' B' ∧ gthF F F' ∧ gthB B B' ∧ F' 7 0 6 = lsG (fun i => gplF g D (bg i)) (fun i => gplF g D (en i)) z f s a ∧ (0 ≤ F' 7 0 6 ∧ F' 7 0 6 ≤ 40000000000000) ∧ CFq K o g D N bg en tn tk F' B' := by
  have hN := dq.2.2.1
  intro f
  induction f with
  | zero =>
    intro m n s a F B hf hm n0 ns s0 sz hc f7 f6 ha
    obtain ⟨p, rfl⟩ : ∃ p, m = p + 1 := ⟨m - 1, (by first | decide | omega)⟩
    have hc' := hc
    obtain ⟨h1, h2, h3, h4, h5⟩ := hc'
    refine ⟨F, B, ?_, fun _ _ _ _ => rfl, fun _ _ _ _ _ => rfl, by rw [lsG]; exact f6, (by first | decide | omega), hc⟩
    rw [f_Scribe_lastPlace_41, if_pos ⟨(by first | decide | omega), h7⟩, h1.1, if_pos h1.2, if_pos (by unfold r32; omega), h4, if_pos (by unfold r32; omega)]
    by_cases c : N ≤ n
    · rw [if_pos c]
    · rw [if_neg c, f7, if_pos (by unfold r32; omega), if_pos (by unfold r32; omega), if_pos (by first | decide | omega)]
  | succ f ih =>
    intro m n s a F B hf hm n0 ns s0 sz hc f7 f6 ha
    obtain ⟨p, rfl⟩ : ∃ p, m = p + 1 := ⟨m - 1, (by first | decide | omega)⟩
    have hc' := hc
    obtain ⟨h1, h2, h3, h4, h5⟩ := hc'
    by_cases y : s < z
    · obtain ⟨F1, B1, x1, x2, x3, x4, x5, x6, x7⟩ := C_ga (K := K) h7 hK dq hz ⟨s0, y⟩ hc
      obtain ⟨p1, p2, _, _⟩ := nxG_p (gB := fun i => gplF g D (bg i)) y (by first | decide | omega) s0
      have hc1 : CFq K o g D N bg en tn tk F1 B1 := CFq_f hc (x2 7 0 0 (by first | decide | omega)) (x2 7 0 2 (by first | decide | omega)) (x2 8 o 2 (by first | decide | omega)) (fun k x => x3 8 o k x (by first | decide | omega))
      obtain ⟨F2, B2, y1, y2, y3, y4, y5, y6⟩ := ih p (n + 1) _ _ F1 B1 (by first | decide | omega) (by first | decide | omega) (by first | decide | omega) (by first | decide | omega) (by first | decide | omega) p2 hc1 x5 x6 (to_b dq hz ⟨s0, y⟩)
      refine ⟨F2, B2, ?_, fun c y k n => by rw [y2 c y k n, x2 c y k n], fun c y k x n => by rw [y3 c y k x n, x3 c y k x n], by rw [lsG, if_pos y]; exact y4, y5, y6⟩
      rw [f_Scribe_lastPlace_41, if_pos ⟨(by first | decide | omega), h7⟩, h1.1, if_pos h1.2, if_pos (by unfold r32; omega), h4, if_pos (by unfold r32; omega), if_neg (by first | decide | omega), f7, if_pos (by unfold r32; omega), if_pos (by unfold r32; omega), if_neg (by first | decide | omega), x1, zb_s]
      exact y1
    · refine ⟨F, B, ?_, fun _ _ _ _ => rfl, fun _ _ _ _ _ => rfl, by rw [lsG, if_neg y]; exact f6, (by first | decide | omega), hc⟩
      rw [f_Scribe_lastPlace_41, if_pos ⟨(by first | decide | omega), h7⟩, h1.1, if_pos h1.2, if_pos (by unfold r32; omega), h4, if_pos (by unfold r32; omega)]
      by_cases c : N ≤ n
      · rw [if_pos c]
      · rw [if_neg c, f7, if_pos (by unfold r32; omega), if_pos (by unfold r32; omega), if_pos (by first | decide | omega)]
/-- the last place of all tracks that become voices -/
def lpB (gB gE tk : Int → Int) (N : Int) : Nat → Int → Int → Int → Int
  | 0, _, _, a => a
  | f + 1, s, v, a => if s < N ∧ v < 4 then lpB gB gE tk N f (nxG tk s N) (v + 1) (zmax a (lsG gB gE (nxG tk s N) 400 s 0)) else a
theorem lsG_a {gB gE : Int → Int} {z : Int} : ∀ (f : Nat) (s a a' : Int), s < z → lsG gB gE z (f + 1) s a = lsG gB gE z (f + 1) s a' := by
  intro f s a a' h
  rw [lsG, lsG, if_pos h, if_pos h]
theorem C_lp7 (h7 : 0 < K.2 7) (hK : 600 ≤ K.1) (dq : DTq g D N bg en tn tk) : ∀ (f m : Nat) (s v a : Int) (F : zF) (B : zB), N - s ≤ f → f < m → 0 ≤ s → s ≤ N → 0 ≤ v → v ≤ 4 → (0 ≤ a ∧ a ≤ 40000000000000) → (0 ≤ F 7 0 6 ∧ F 7 0 6 ≤ 40000000000000) → CFq K o g D N bg en tn tk F B → ∃ F' B', f_Scribe_lastPlace_7 K m s v a 0 F B = some (lpB (fun i => gplF g D (bg i)) (fun i => gplF g D (en i)) tk N f s v a, F', B') ∧ gthF F F' ∧ gthB B B' ∧ (0 ≤ lpB (fun i => gplF g D (bg i)) (fun i => gplF g D (en i)) tk N f s v a ∧ lpB (fun i => gplF g D (bg i)) (fun i => gplF g D (en i)) tk N f s v a ≤ 40000000000000) ∧ CFq K o g D N bg en tn tk F' B' := by
  have hN := dq.2.2.1
  intro f
  induction f with
  | zero =>
    intro m s v a F B hf hm s0 sz v0 v4 ha h6 hc
    obtain ⟨p, rfl⟩ : ∃ p, m = p + 1 := ⟨m - 1, (by first | decide | omega)⟩
    have hc' := hc
    obtain ⟨h1, h2, h3, h4, h5⟩ := hc'
    refine ⟨F, B, ?_, fun _ _ _ _ => rfl, fun _ _ _ _ _ => rfl, by rw [lpB]; exact ha, hc⟩
    rw [f_Scribe_lastPlace_7, if_pos ⟨(by first | decide | omega), h7⟩, h1.1, if_pos h1.2, if_pos (by unfold r32; omega), h4, if_pos (by unfold r32; omega), if_pos (by first | decide | omega), f_Scribe_lastPlace_101, lpB]
  | succ f ih =>
    intro m s v a F B hf hm s0 sz v0 v4 ha h6 hc
    obtain ⟨p, rfl⟩ : ∃ p, m = p + 1 := ⟨m - 1, (by first | decide | omega)⟩
    have hc' := hc
    obtain ⟨h1, h2, h3, h4, h5⟩ := hc'
    rw [f_Scribe_lastPlace_7, if_pos ⟨(by first | decide | omega), h7⟩, h1.1, if_pos h1.2, if_pos (by unfold r32; omega), h4, if_pos (by unfold r32; omega), lpB]
    by_cases c : N ≤ s
    · rw [if_pos c, if_neg (by first | decide | omega), f_Scribe_lastPlace_101]
      exact ⟨F, B, rfl, fun _ _ _ _ => rfl, fun _ _ _ _ _ => rfl, ha, hc⟩
    · rw [if_neg c, if_pos (by unfold r32; omega)]
      by_cases y : 4 ≤ v
      · rw [if_pos y, if_neg (by first | decide | omega), f_Scribe_lastPlace_101]
        exact ⟨F, B, rfl, fun _ _ _ _ => rfl, fun _ _ _ _ _ => rfl, ha, hc⟩
      · obtain ⟨p1, p2, _, _⟩ := nxG_p (gB := tk) (show s < N by omega) (by first | decide | omega) s0
        rw [if_neg y, if_pos ⟨(by first | decide | omega), (by first | decide | omega)⟩, C_te h7 hK dq ⟨s0, (by first | decide | omega)⟩ hc, zb_s]
        have hc1 : CFq K o g D N bg en tn tk (zup3 F 7 0 7 s) B := CFq_f hc (by rw [zup3_v, if_neg (by first | decide | omega)]) (by rw [zup3_v, if_neg (by first | decide | omega)]) (by rw [zup3_v, if_neg (by first | decide | omega)]) (fun _ _ => rfl)
        obtain ⟨F1, B1, x1, x2, x3, x4, x5, x6⟩ := C_l41 (rec' := f_Scribe_lastPlace_7 K p) (z := nxG tk s N) (first := s) (l3 := v) (l1 := a) h7 hK dq p2 400 K.1 0 s (F 7 0 6) (zup3 F 7 0 7 s) B (by first | decide | omega) (by first | decide | omega) (by first | decide | omega) s0 s0 (by first | decide | omega) hc1 (by rw [zup3_v, if_pos (by first | decide | omega)]) (by rw [zup3_v, if_neg (by first | decide | omega)]) h6
        have la : F1 7 0 6 = lsG (fun i => gplF g D (bg i)) (fun i => gplF g D (en i)) (nxG tk s N) 400 s 0 := by rw [x4]; exact lsG_a 399 s _ _ p1
        have zb : 0 ≤ zmax a (F1 7 0 6) ∧ zmax a (F1 7 0 6) ≤ 40000000000000 := by unfold zmax; split <;> omega
        obtain ⟨F2, B2, y1, y2, y3, y4, y5⟩ := ih p (nxG tk s N) (v + 1) (zmax a (F1 7 0 6)) F1 B1 (by first | decide | omega) (by first | decide | omega) (by first | decide | omega) p2 (by first | decide | omega) (by first | decide | omega) zb x5 x6
        rw [la] at y1 y4
        refine ⟨F2, B2, ?_, fun c y k n => by rw [y2 c y k n, x2 c y k n, zup3_v, if_neg (by first | decide | omega)], fun c y k x n => by rw [y3 c y k x n, x3 c y k x n], y4, y5⟩
        rw [x1]
        unfold f_Scribe_lastPlace_78
        rw [if_pos ⟨(by first | decide | omega), h7⟩, if_pos (by unfold r64; omega), if_pos (by unfold r64; omega), C_te h7 hK dq ⟨s0, (by first | decide | omega)⟩ x6, zb_s, la]
        exact y1
end
end
end
section
section
/-! ===== a tone spelled, both sides ===== -/
def fmB (a b : Int) : Bool := decide (r32 (zxor a b)) && (if 0 ≤ zxor a b then decide (zrm a b = a % b) else (decide (r32 (zrm a b)) && (if zrm a b = 0 then decide (zrm a b = a % b) else decide (zrm a b + b = a % b))))
def fdB (a b : Int) : Bool := decide (r32 (zxor a b)) && (decide (r32 a) && (if 0 ≤ zxor a b then decide (zdv a b = a / b) else (decide (r32 (zdv a b * b)) && (if zdv a b * b = a then decide (zdv a b = a / b) else decide (zdv a b - 1 = a / b)))))
theorem C_fmB {K : zK} {a b : Int} {F : zF} {B : zB} (hb : 0 < b) (rb : r32 b) (h : fmB a b = true) : f_Math_floorMod K a b F B = some (a % b, F, B) := by
  unfold fmB at h
  rw [Bool.and_eq_true] at h
  obtain ⟨h1, h2⟩ := h
  unfold f_Math_floorMod f_Math_floorMod_18
  rw [if_pos (iI_n0 hb rb), if_pos (of_decide_eq_true h1)]
  by_cases c : 0 ≤ zxor a b
  · rw [if_pos c] at h2 ⊢
    rw [of_decide_eq_true h2]
  · rw [if_neg c, Bool.and_eq_true] at h2
    obtain ⟨h3, h4⟩ := h2
    rw [if_neg c, if_pos (of_decide_eq_true h3)]
    by_cases d : zrm a b = 0
    · rw [if_pos d] at h4 ⊢
      rw [of_decide_eq_true h4]
    · rw [if_neg d] at h4 ⊢
      rw [of_decide_eq_true h4]
theorem C_fdB {K : zK} {a b : Int} {F : zF} {B : zB} (hb : 0 < b) (rb : r32 b) (h : fdB a b = true) : f_Math_floorDiv K a b F B = some (a / b, F, B) := by
  unfold fdB at h
  rw [Bool.and_eq_true, Bool.and_eq_true] at h
  obtain ⟨h1, h0, h2⟩ := h
  unfold f_Math_floorDiv f_Math_floorDiv_21
  rw [if_pos (iI_n0 hb rb), if_pos (of_decide_eq_true h1)]
  by_cases c : 0 ≤ zxor a b
  · rw [if_pos c] at h2 ⊢
    rw [of_decide_eq_true h2]
  · rw [if_neg c, Bool.and_eq_true] at h2
    obtain ⟨h3, h4⟩ := h2
    rw [if_neg c, if_pos (of_decide_eq_true h3), if_pos (of_decide_eq_true h0)]
    by_cases d : zdv a b * b = a
    · rw [if_pos d] at h4 ⊢
      rw [of_decide_eq_true h4]
    · rw [if_neg d] at h4 ⊢
      rw [of_decide_eq_true h4]
theorem fm12 : ∀ x : Fin 1000, fmB ((x.val : Int) - 60) 12 = true := by decide +kernel
theorem fm7 : ∀ x : Fin 128, fmB ((x.val : Int) - 60) 7 = true := by decide +kernel
theorem fd12 : ∀ x : Fin 256, fdB ((x.val : Int) - 60) 12 = true := by decide +kernel
theorem fd7 : ∀ x : Fin 128, fdB ((x.val : Int) - 60) 7 = true := by decide +kernel
theorem C_m12 {K : zK} {a : Int} {F : zF} {B : zB} (h : -60 ≤ a ∧ a < 940) : f_Math_floorMod K a 12 F B = some (a % 12, F, B) := by
  have := fm12 ⟨(a + 60).toNat, (by first | decide | omega)⟩
  rw [show (((⟨(a + 60).toNat, (by first | decide | omega)⟩ : Fin 1000).val : Nat) : Int) - 60 = a by show (((a + 60).toNat : Nat) : Int) - 60 = a; omega] at this
  exact C_fmB (by decide) (by decide) this
theorem C_m7 {K : zK} {a : Int} {F : zF} {B : zB} (h : -60 ≤ a ∧ a < 68) : f_Math_floorMod K a 7 F B = some (a % 7, F, B) := by
  have := fm7 ⟨(a + 60).toNat, (by first | decide | omega)⟩
  rw [show (((⟨(a + 60).toNat, (by first | decide | omega)⟩ : Fin 128).val : Nat) : Int) - 60 = a by show (((a + 60).toNat : Nat) : Int) - 60 = a; omega] at this
  exact C_fmB (by decide) (by decide) this
theorem C_d12 {K : zK} {a : Int} {F : zF} {B : zB} (h : -60 ≤ a ∧ a < 196) : f_Math_floorDiv K a 12 F B = some (a / 12, F, B) := by
  have := fd12 ⟨(a + 60).toNat, (by first | decide | omega)⟩
  rw [show (((⟨(a + 60).toNat, (by first | decide | omega)⟩ : Fin 256).val : Nat) : Int) - 60 = a by show (((a + 60).toNat : Nat) : Int) - 60 = a; omega] at this
  exact C_fdB (by decide) (by decide) this
theorem C_d7 {K : zK} {a : Int} {F : zF} {B : zB} (h : -60 ≤ a ∧ a < 68) : f_Math_floorDiv K a 7 F B = some (a / 7, F, B) := by
  have := fd7 ⟨(a + 60).toNat, (by first | decide | omega)⟩
  rw [show (((⟨(a + 60).toNat, (by first | decide | omega)⟩ : Fin 128).val : Nat) : Int) - 60 = a by show (((a + 60).toNat : Nat) : Int) - 60 = a; omega] at this
  exact C_fdB (by decide) (by decide) this
/-- the natural tone of a letter -/
def ntl (l : Int) : Int := 2 * l - (if l ≤ 2 then 0 else 1)
theorem ntl_t : ztl 5 = 7 ∧ (∀ k : Fin 7, ztv 5 (k.val : Int) = ntl (k.val : Int)) := by decide +kernel
/-- which fifth, letter, alteration and octave a tone has in a key -/
def fiT (f t : Int) : Int := f - 5 + (7 * t - (f - 5)) % 12
def leT (f t : Int) : Int := (4 * fiT f t) % 7
def alT (f t : Int) : Int := (fiT f t + 1) / 7
def ocT (f t : Int) : Int := (t - ntl (leT f t) - alT f t) / 12 - 1
theorem fif_k : ∀ x : Fin 26, (ntl ((4 * ((x.val : Int) - 12)) % 7) + ((x.val : Int) - 12 + 1) / 7 - 7 * ((x.val : Int) - 12)) % 12 = 0 ∧ (-2 ≤ ((x.val : Int) - 12 + 1) / 7 ∧ ((x.val : Int) - 12 + 1) / 7 ≤ 2) := by decide +kernel
theorem fi_p {f t : Int} (hf : -7 ≤ f ∧ f ≤ 7) (ht : 0 ≤ t ∧ t < 128) : (-12 ≤ fiT f t ∧ fiT f t ≤ 13) ∧ (7 * fiT f t - t) % 12 = 0 ∧ (0 ≤ leT f t ∧ leT f t < 7) ∧ (-2 ≤ alT f t ∧ alT f t ≤ 2) ∧ (t - ntl (leT f t) - alT f t) % 12 = 0 ∧ (0 ≤ ntl (leT f t) ∧ ntl (leT f t) ≤ 11) := by
  have a1 : -12 ≤ fiT f t ∧ fiT f t ≤ 13 := by unfold fiT; omega
  have a2 : (7 * fiT f t - t) % 12 = 0 := by unfold fiT; omega
  have a3 : 0 ≤ leT f t ∧ leT f t < 7 := by unfold leT; omega
  have k := fif_k ⟨(fiT f t + 12).toNat, (by first | decide | omega)⟩
  rw [show (((⟨(fiT f t + 12).toNat, (by first | decide | omega)⟩ : Fin 26).val : Nat) : Int) - 12 = fiT f t by show (((fiT f t + 12).toNat : Nat) : Int) - 12 = fiT f t; omega] at k
  have e1 : leT f t = (4 * fiT f t) % 7 := rfl
  have e2 : alT f t = (fiT f t + 1) / 7 := rfl
  rw [← e1, ← e2] at k
  refine ⟨a1, a2, a3, k.2, (by first | decide | omega), ?_⟩
  unfold ntl
  split <;> omega
/-- the class spells a tone: it puts this step in, if there is such an octave -/
theorem C_spl {K : zK} {o f t : Int} {F : zF} {B : zB} (h7 : 0 < K.2 7) (h1 : 0 < K.2 1) (hf : -7 ≤ f ∧ f ≤ 7) (ht : 0 ≤ t ∧ t < 128) (f0 : F 7 0 0 = o ∧ 0 ≤ o ∧ o < K.2 8) (f4 : F 7 0 4 = 0) (b2 : B 8 o 0 2 = f) : f_Scribe_spell K 0 t F B = if 0 ≤ ocT f t ∧ ocT f t ≤ 8 then zbind (f_Event_insert K 0 (7 * ocT f t + leT f t) (alT f t) F B) (fun _ F B => some (0, F, B)) else some (0, F, B) := by
  obtain ⟨a1, a2, a3, a4, a5, a6⟩ := fi_p hf ht
  have e1 : f - 5 + (7 * t - (f - 5)) % 12 = fiT f t := rfl
  have e2 : (4 * fiT f t) % 7 = leT f t := rfl
  have e3 : (fiT f t + 1) / 7 = alT f t := rfl
  have e4 : (t - ntl (leT f t) - alT f t) / 12 - 1 = ocT f t := rfl
  have zt := ntl_t.2 ⟨(leT f t).toNat, (by first | decide | omega)⟩
  rw [show (((⟨(leT f t).toNat, (by first | decide | omega)⟩ : Fin 7).val : Nat) : Int) = leT f t by show (((leT f t).toNat : Nat) : Int) = leT f t; omega] at zt
  unfold f_Scribe_spell f_Scribe_spell_96
  rw [if_pos ⟨(by first | decide | omega), h7⟩, f0.1, if_pos f0.2, b2, C_m12 (by first | decide | omega), zb_s, e1, C_m7 (by first | decide | omega), zb_s, e2, C_d7 (by first | decide | omega), zb_s, e3, ntl_t.1, if_pos a3, zt, C_d12 (by first | decide | omega), zb_s, e4, if_pos (by unfold r32; omega), f4, if_pos (show (0 : Int) ≤ 0 ∧ (0 : Int) < K.2 1 from ⟨(by first | decide | omega), h1⟩)]
  by_cases c : ocT f t < 0
  · rw [if_pos c, if_neg (by first | decide | omega)]
  · rw [if_neg c]
    by_cases d : 8 < ocT f t
    · rw [if_pos d, if_neg (by first | decide | omega)]
    · rw [if_neg d, if_pos (by first | decide | omega)]
/-- the reference finds the fifth -/
theorem L_s10 {Km : Nat} {f t x : Int} {F : zF} {B : zB} (hf : -7 ≤ f ∧ f ≤ 7) (ht : 0 ≤ t ∧ t < 128) : ∀ (d n : Nat) (j : Int), j + d = fiT f t → f - 5 ≤ j → d < n → f_M_spell_10 Km n j x t F B = f_M_spell_53 Km Km 0 (alT f t) (leT f t) x t F B := by
  obtain ⟨a1, a2, a3, a4, a5, a6⟩ := fi_p hf ht
  have e2 : (4 * fiT f t) % 7 = leT f t := rfl
  have e3 : (fiT f t + 1) / 7 = alT f t := rfl
  have e1 : fiT f t = f - 5 + (7 * t - (f - 5)) % 12 := rfl
  intro d
  induction d with
  | zero =>
    intro n j e jl hn
    obtain ⟨p, rfl⟩ : ∃ p, n = p + 1 := ⟨n - 1, (by first | decide | omega)⟩
    have : j = fiT f t := by omega
    subst this
    rw [f_M_spell_10, L_mod (by unfold r32; omega) (by decide) (by decide), zb_s, if_pos (by unfold r32; omega), if_pos a2, L_mod (by unfold r32; omega) (by decide) (by decide), zb_s, L_floor (by unfold r32; omega) (by decide) (by decide), zb_s, e2, e3]
  | succ d ih =>
    intro n j e jl hn
    obtain ⟨p, rfl⟩ : ∃ p, n = p + 1 := ⟨n - 1, (by first | decide | omega)⟩
    rw [f_M_spell_10, L_mod (by unfold r32; omega) (by decide) (by decide), zb_s, if_pos (by unfold r32; omega), if_neg (by first | decide | omega), ih p (j + 1) (by first | decide | omega) (by first | decide | omega) (by first | decide | omega)]
/-- the octaves that don't fit -/
theorem L_s53n {Km : Nat} {f t x : Int} {F : zF} {B : zB} (hf : -7 ≤ f ∧ f ≤ 7) (ht : 0 ≤ t ∧ t < 128) : ∀ (d n : Nat) (j : Int), j + d = 9 → 0 ≤ j → d < n → (ocT f t < j ∨ 8 < ocT f t) → f_M_spell_53 Km n j (alT f t) (leT f t) x t F B = some (0, F, B) := by
  obtain ⟨a1, a2, a3, a4, a5, a6⟩ := fi_p hf ht
  have e4 : ocT f t = (t - ntl (leT f t) - alT f t) / 12 - 1 := rfl
  intro d
  induction d with
  | zero =>
    intro n j e j0 hn ho
    obtain ⟨p, rfl⟩ : ∃ p, n = p + 1 := ⟨n - 1, (by first | decide | omega)⟩
    rw [f_M_spell_53, if_pos (by unfold r32; omega), if_pos (by first | decide | omega)]
  | succ d ih =>
    intro n j e j0 hn ho
    obtain ⟨p, rfl⟩ : ∃ p, n = p + 1 := ⟨n - 1, (by first | decide | omega)⟩
    have s1 : (7 * j + leT f t) / 7 = j := by omega
    have s2 : (7 * j + leT f t) % 7 = leT f t := by omega
    have e5 : 2 * leT f t - (if leT f t ≤ 2 then 0 else 1) = ntl (leT f t) := rfl
    rw [f_M_spell_53, if_pos (by unfold r32; omega), if_neg (by first | decide | omega), L_tone (by first | decide | omega) (by first | decide | omega), zb_s, s1, s2, e5, if_pos (by unfold r32; omega), if_pos (by unfold r32; omega), if_neg (by first | decide | omega), f_M_spell_248, ih p (j + 1) (by first | decide | omega) (by first | decide | omega) (by first | decide | omega) (by first | decide | omega)]
theorem L_s53y {Km : Nat} {f t x w : Int} {F : zF} {B : zB} (hw : F 14 0 6 = w) (h6 : 0 ≤ w ∧ w < 3) (hx : 0 ≤ x ∧ x < 4000) (hf : -7 ≤ f ∧ f ≤ 7) (ht : 0 ≤ t ∧ t < 128) (ho : 0 ≤ ocT f t ∧ ocT f t ≤ 8) : ∀ (d n : Nat) (j : Int), j + d = ocT f t → 0 ≤ j → d < n → ∃ p : Nat, n = p + d + 1 ∧ f_M_spell_53 Km n j (alT f t) (leT f t) x t F B = f_M_spell_106 (f_M_spell_53 Km p) Km Km (6 * x) (6 * x + B 13 w 21 x) (7 * ocT f t + leT f t) (ocT f t) (alT f t) (leT f t) x t F B := by
  obtain ⟨a1, a2, a3, a4, a5, a6⟩ := fi_p hf ht
  have e4 : ocT f t = (t - ntl (leT f t) - alT f t) / 12 - 1 := rfl
  intro d
  induction d with
  | zero =>
    intro n j e j0 hn
    obtain ⟨p, rfl⟩ : ∃ p, n = p + 1 := ⟨n - 1, (by first | decide | omega)⟩
    have : j = ocT f t := by omega
    subst this
    have s1 : (7 * ocT f t + leT f t) / 7 = ocT f t := by omega
    have s2 : (7 * ocT f t + leT f t) % 7 = leT f t := by omega
    have e5 : 2 * leT f t - (if leT f t ≤ 2 then 0 else 1) = ntl (leT f t) := rfl
    refine ⟨p, (by first | decide | omega), ?_⟩
    rw [f_M_spell_53, if_pos (by unfold r32; omega), if_neg (by first | decide | omega), L_tone (by first | decide | omega) (by first | decide | omega), zb_s, s1, s2, e5, if_pos (by unfold r32; omega), if_pos (by unfold r32; omega), if_pos (by first | decide | omega), hw, if_pos h6, if_pos hx]
  | succ d ih =>
    intro n j e j0 hn
    obtain ⟨p, rfl⟩ : ∃ p, n = p + 1 := ⟨n - 1, (by first | decide | omega)⟩
    have s1 : (7 * j + leT f t) / 7 = j := by omega
    have s2 : (7 * j + leT f t) % 7 = leT f t := by omega
    have e5 : 2 * leT f t - (if leT f t ≤ 2 then 0 else 1) = ntl (leT f t) := rfl
    obtain ⟨r, er, h⟩ := ih p (j + 1) (by first | decide | omega) (by first | decide | omega) (by first | decide | omega)
    refine ⟨r, (by first | decide | omega), ?_⟩
    rw [f_M_spell_53, if_pos (by unfold r32; omega), if_neg (by first | decide | omega), L_tone (by first | decide | omega) (by first | decide | omega), zb_s, s1, s2, e5, if_pos (by unfold r32; omega), if_pos (by unfold r32; omega), if_neg (by first | decide | omega), f_M_spell_248, h]
/-- a step that is there already -/
theorem L106y {Km : Nat} {rec' : Int → Int → Int → Int → Int → zF → zB → zO} {F : zF} {B : zB} {w s l6 al le x t h a f : Int} (hw : F 14 0 6 = w) (h6 : 0 ≤ w ∧ w < 3) (hs : r32 s) (hh : 0 ≤ h ∧ h ≤ 24000) (hr : ∀ k, 0 ≤ k → k < h → f ≤ k → r32 (B 13 w 28 k)) (ha : B 13 w 28 a = s) (ah : a < h) : ∀ (j n : Nat) {l : Int}, 0 ≤ l → f ≤ l → l ≤ a → (h - l).toNat = j → j < n → f_M_spell_106 rec' Km n l h s l6 al le x t F B = some (0, F, B) := by
  intro j
  induction j with
  | zero => intro n l l0 lf l1 hj hn; omega
  | succ j ih =>
    intro n l l0 lf l1 hj hn
    obtain ⟨n, rfl⟩ : ∃ m, n = m + 1 := ⟨n - 1, (by first | decide | omega)⟩
    unfold f_M_spell_106
    rw [hw, if_pos (by unfold r32; omega), if_pos (by unfold r32; omega), if_neg (by first | decide | omega), if_pos h6, if_pos (by first | decide | omega), if_pos (hr l (by first | decide | omega) (by first | decide | omega) lf), if_pos hs]
    by_cases c : B 13 w 28 l = s
    · rw [if_pos c]
    · have la : ¬ l = a := fun z => c (by rw [z]; exact ha)
      rw [if_neg c, ih n (by first | decide | omega) (by first | decide | omega) (by first | decide | omega) (by first | decide | omega) (by first | decide | omega)]
theorem L106n {Km : Nat} {rec' : Int → Int → Int → Int → Int → zF → zB → zO} {F : zF} {B : zB} {w s l6 al le x t h f : Int} (hw : F 14 0 6 = w) (h6 : 0 ≤ w ∧ w < 3) (hs : r32 s) (hh : 0 ≤ h ∧ h ≤ 24000) (hr : ∀ k, 0 ≤ k → k < h → f ≤ k → r32 (B 13 w 28 k) ∧ ¬ B 13 w 28 k = s) : ∀ (j n : Nat) {l : Int}, 0 ≤ l → f ≤ l → l ≤ h → (h - l).toNat = j → j < n → f_M_spell_106 rec' Km n l h s l6 al le x t F B = f_M_spell_135 rec' Km Km h s l6 al le x t F B := by
  intro j
  induction j with
  | zero =>
    intro n l l0 lf l1 hj hn
    obtain ⟨n, rfl⟩ : ∃ m, n = m + 1 := ⟨n - 1, (by first | decide | omega)⟩
    unfold f_M_spell_106
    rw [if_pos (by unfold r32; omega), if_pos (by unfold r32; omega), if_pos (by first | decide | omega)]
  | succ j ih =>
    intro n l l0 lf l1 hj hn
    obtain ⟨n, rfl⟩ : ∃ m, n = m + 1 := ⟨n - 1, (by first | decide | omega)⟩
    unfold f_M_spell_106
    rw [hw, if_pos (by unfold r32; omega), if_pos (by unfold r32; omega), if_neg (by first | decide | omega), if_pos h6, if_pos (by first | decide | omega), if_pos (hr l (by first | decide | omega) (by first | decide | omega) lf).1, if_pos hs, if_neg (hr l (by first | decide | omega) (by first | decide | omega) lf).2, ih n (by first | decide | omega) (by first | decide | omega) (by first | decide | omega) (by first | decide | omega) (by first | decide | omega)]
theorem L135 {Km : Nat} {rec' : Int → Int → Int → Int → Int → zF → zB → zO} {F : zF} {w s l6 al le x t a : Int} (hw : F 14 0 6 = w) (h6 : 0 ≤ w ∧ w < 3) (s0 : 0 ≤ s) (s1 : s ≤ 62) (hx : 0 ≤ x ∧ x < 4000) (fa : 6 * x ≤ a) : ∀ (j n : Nat) {l : Int} {B : zB}, l = a + j → l < 24000 → j < n → (∀ k, 6 * x ≤ k → k < l → r32 (B 13 w 28 k)) → (∀ k, a ≤ k → k < l → s < B 13 w 28 k) → (a = 6 * x ∨ B 13 w 28 (a - 1) ≤ s) → ∃ B', f_M_spell_135 rec' Km n l s l6 al le x t F B = rec' (l6 + 1) al le x t F B' ∧ (∀ k, B' 13 w 28 k = shf a l s (B 13 w 28) k) ∧ (∀ k, B' 13 w 29 k = shf a l al (B 13 w 29) k) ∧ B' 13 w 21 x = B 13 w 21 x + 1 ∧ ∀ c i k y, ¬ (c = 13 ∧ i = w ∧ (k = 28 ∨ k = 29 ∨ (k = 21 ∧ y = x))) → B' c i k y = B c i k y := by
  intro j
  induction j with
  | zero =>
    intro n l B hl h5 hn hr hg hm
    obtain ⟨n, rfl⟩ : ∃ m, n = m + 1 := ⟨n - 1, (by first | decide | omega)⟩
    have hl : l = a := by omega
    subst hl
    have e99 : f_M_spell_135 rec' Km (n + 1) l s l6 al le x t F B = f_M_spell_211 rec' Km l s l6 al le x t F B := by
      unfold f_M_spell_135
      rw [hw, if_pos (by unfold r32; omega), if_pos (by unfold r32; omega)]
      by_cases c : l ≤ 6 * x
      · rw [if_pos c]
      · rw [if_neg c, if_pos h6, if_pos (by first | decide | omega), if_pos (hr (l - 1) (by first | decide | omega) (by first | decide | omega)), if_pos (by unfold r32; omega), if_pos (by first | decide | omega)]
    refine ⟨_, by rw [e99]; unfold f_M_spell_211 f_M_spell_248; rw [hw, if_pos h6, if_pos (by first | decide | omega), if_pos hx], ?_, ?_, ?_, ?_⟩
    · exact fun k => shf_0 (fun k h => by rw [zup4_v, if_neg (by first | decide | omega), zup4_v, if_neg (by first | decide | omega), zup4_v, if_neg (by first | decide | omega)]) (by rw [zup4_v, if_neg (by first | decide | omega), zup4_v, if_neg (by first | decide | omega), zup4_v, if_pos (by first | decide | omega)]) k
    · exact fun k => shf_0 (fun k h => by rw [zup4_v, if_neg (by first | decide | omega), zup4_v, if_neg (by first | decide | omega), zup4_v, if_neg (by first | decide | omega)]) (by rw [zup4_v, if_neg (by first | decide | omega), zup4_v, if_pos (by first | decide | omega)]) k
    · rw [zup4_v, if_pos (by first | decide | omega), zup4_v, if_neg (by first | decide | omega), zup4_v, if_neg (by first | decide | omega)]
    · intro c i k y h
      rw [zup4_v, if_neg (by first | decide | omega), zup4_v, if_neg (by first | decide | omega), zup4_v, if_neg (by first | decide | omega)]
  | succ j ih =>
    intro n l B hl h5 hn hr hg hm
    obtain ⟨n, rfl⟩ : ∃ m, n = m + 1 := ⟨n - 1, (by first | decide | omega)⟩
    have e : ∀ k, ¬ k = l → (zup4 (zup4 B 13 w 28 l (B 13 w 28 (l - 1))) 13 w 29 l ((zup4 B 13 w 28 l (B 13 w 28 (l - 1))) 13 w 29 (l - 1))) 13 w 28 k = B 13 w 28 k := fun k h => by rw [zup4_v, if_neg (by first | decide | omega), zup4_v, if_neg (by first | decide | omega)]
    obtain ⟨B', h, g1, g2, g3, g4⟩ := ih n (l := l - 1) (B := zup4 (zup4 B 13 w 28 l (B 13 w 28 (l - 1))) 13 w 29 l ((zup4 B 13 w 28 l (B 13 w 28 (l - 1))) 13 w 29 (l - 1))) (by first | decide | omega) (by first | decide | omega) (by first | decide | omega) (fun k p q => by rw [e k (by first | decide | omega)]; exact hr k p (by first | decide | omega)) (fun k p q => by rw [e k (by first | decide | omega)]; exact hg k p (by first | decide | omega)) (by rw [e (a - 1) (by first | decide | omega)]; exact hm)
    have gl := hg (l - 1) (by first | decide | omega) (by first | decide | omega)
    refine ⟨B', ?_, ?_, ?_, ?_, ?_⟩
    · unfold f_M_spell_135
      rw [hw, if_pos (by unfold r32; omega), if_pos (by unfold r32; omega), if_neg (by first | decide | omega), if_pos h6, if_pos (by first | decide | omega), if_pos (hr (l - 1) (by first | decide | omega) (by first | decide | omega)), if_pos (by unfold r32; omega), if_neg (by first | decide | omega), if_pos (by first | decide | omega), h]
    · intro k
      rw [g1, shf_s (g := B 13 w 28) (by first | decide | omega) e (by rw [zup4_v, if_neg (by first | decide | omega), zup4_v, if_pos (by first | decide | omega)])]
    · intro k
      rw [g2, shf_s (g := B 13 w 29) (by first | decide | omega) (fun k h => by rw [zup4_v, if_neg (by first | decide | omega), zup4_v, if_neg (by first | decide | omega)]) (by rw [zup4_v, if_pos (by first | decide | omega), zup4_v, if_neg (by first | decide | omega)])]
    · rw [g3, zup4_v, if_neg (by first | decide | omega), zup4_v, if_neg (by first | decide | omega)]
    · intro c i k y h
      rw [g4 c i k y h, zup4_v, if_neg (by first | decide | omega), zup4_v, if_neg (by first | decide | omega)]
end
end
section
section
/-! ===== a tone spelled into an event, both sides ===== -/
def spF (F F' : zF) : Prop := ∀ c y k, ¬ (c = 1 ∧ y = 0 ∧ k = 10) → F' c y k = F c y k
def spB (B B' : zB) : Prop := ∀ c y k x, ¬ (c = 1 ∧ y = 0 ∧ (k = 12 ∨ k = 13)) → B' c y k x = B c y k x
def spM (x w : Int) (B B' : zB) : Prop := ∀ c i k y, ¬ (c = 13 ∧ i = w ∧ (((k = 28 ∨ k = 29) ∧ 6 * x ≤ y ∧ y < 6 * x + 6) ∨ (k = 21 ∧ y = x))) → B' c i k y = B c i k y
theorem P_spl {K : zK} {Km : Nat} {o f t x w c : Int} {F : zF} {B : zB} {Fm : zF} {Bm : zB} (h7 : 0 < K.2 7) (h1 : 0 < K.2 1) (hK : 100 ≤ K.1) (hKm : 100 ≤ Km) (hf : -7 ≤ f ∧ f ≤ 7) (ht : 0 ≤ t ∧ t < 128) (f0 : F 7 0 0 = o ∧ 0 ≤ o ∧ o < K.2 8) (f4 : F 7 0 4 = 0) (b2 : B 8 o 0 2 = f) (hw : Fm 14 0 6 = w) (h6 : 0 ≤ w ∧ w < 3) (m2 : Fm 13 w 2 = f) (hx : 0 ≤ x ∧ x < 4000) (hE : EPR 0 x w c F B Bm) (c5 : c ≤ 5) : zP (f_Scribe_spell K 0 t F B) (f_M_spell Km x t Fm Bm) (fun _ F' B' _ Fm' Bm' => Fm' = Fm ∧ spF F F' ∧ spB B B' ∧ spM x w Bm Bm' ∧ ∃ c', (c ≤ c' ∧ c' ≤ c + 1) ∧ EPR 0 x w c' F' B' Bm') := by
  obtain ⟨a1, a2, a3, a4, a5, a6⟩ := fi_p hf ht
  have e0 : fiT f t = f - 5 + (7 * t - (f - 5)) % 12 := rfl
  have em : f_M_spell Km x t Fm Bm = f_M_spell_53 Km Km 0 (alT f t) (leT f t) x t Fm Bm := by
    unfold f_M_spell
    rw [hw, if_pos h6, m2, L_s10 hf ht (fiT f t - (f - 5)).toNat Km (f - 5) (by first | decide | omega) (by first | decide | omega) (by first | decide | omega)]
  rw [C_spl h7 h1 hf ht f0 f4 b2, em]
  by_cases oc : 0 ≤ ocT f t ∧ ocT f t ≤ 8
  · rw [if_pos oc]
    obtain ⟨p, ep, el⟩ := L_s53y (Km := Km) (B := Bm) hw h6 hx hf ht oc (ocT f t).toNat Km 0 (by first | decide | omega) (by first | decide | omega) (by first | decide | omega)
    rw [el]
    generalize hs : 7 * ocT f t + leT f t = s
    have s0 : 0 ≤ s ∧ s ≤ 62 := by omega
    obtain ⟨E1, E2, E3, E4, E5⟩ := hE
    obtain ⟨a, ha, ⟨u1, u2⟩, u3, u4⟩ := C24 (K := K) (F := F) (B := B) (al := alT f t) (c0 := c) (e := 0) ⟨(by first | decide | omega), h1⟩ (s := s) (by unfold r32; omega) (by first | decide | omega) (fun k u v => by have := (E4 k u v).2.2.1; unfold r32; omega) c.toNat K.1 (by first | decide | omega) (by first | decide | omega)
    rw [show ((c.toNat : Nat) : Int) = c by omega] at ha u2 u3
    have ci : f_Event_insert K 0 s (alT f t) F B = f_Event_insert_49 K a 0 s (alT f t) F B := by
      unfold f_Event_insert
      rw [if_pos ⟨(by first | decide | omega), h1⟩, E1, if_pos (by unfold r32; omega), if_pos (by first | decide | omega), ha]
    have rr : ∀ k, 0 ≤ k → k < 6 * x + c → 6 * x ≤ k → r32 (Bm 13 w 28 k) := fun k u v z => by
      have := E4 (k - 6 * x) (by first | decide | omega) (by first | decide | omega)
      rw [show 6 * x + (k - 6 * x) = k by omega] at this
      have h1 := this.1
      have h2 := this.2.2.1
      unfold r32
      omega
    rw [ci, E2]
    by_cases z : a < c ∧ B 1 0 12 a = s
    · have h49 : f_Event_insert_49 K a 0 s (alT f t) F B = some (0, F, B) := by
        unfold f_Event_insert_49
        rw [if_pos ⟨(by first | decide | omega), h1⟩, if_pos (by unfold r32; omega), E1, if_pos (by unfold r32; omega), if_neg (by first | decide | omega), if_pos (by first | decide | omega), z.2, if_pos (by unfold r32; omega), if_pos (by unfold r32; omega), if_pos rfl]
      rw [h49, zb_s, L106y hw h6 (by unfold r32; omega) (by first | decide | omega) rr (a := 6 * x + a) (by rw [← (E4 a u1 z.1).1]; exact z.2) (by first | decide | omega) c.toNat Km (by first | decide | omega) (by first | decide | omega) (by first | decide | omega) (by first | decide | omega) (by first | decide | omega)]
      exact P_some ⟨rfl, fun _ _ _ _ => rfl, fun _ _ _ _ _ => rfl, fun _ _ _ _ _ => rfl, c, (by first | decide | omega), E1, E2, E3, E4, E5⟩
    · have lt : ∀ k, 0 ≤ k → k < a → B 1 0 12 k < s := fun k u v => by
        rcases u4 with q | q
        · omega
        · by_cases y : k = a - 1
          · rw [y]; exact q
          · have := E5 k (a - 1) u (by first | decide | omega) (by first | decide | omega)
            omega
      have gt : ∀ k, a ≤ k → k < c → s < B 1 0 12 k := fun k u v => by
        have h1 := u3 k u v
        by_cases y : k = a
        · subst y
          by_cases q : B 1 0 12 k = s
          · exact absurd ⟨v, q⟩ z
          · omega
        · have := E5 a k u1 (by first | decide | omega) v
          have := u3 a (by first | decide | omega) (by first | decide | omega)
          omega
      have h49 : f_Event_insert_49 K a 0 s (alT f t) F B = f_Event_insert_75 K K.1 c a 0 s (alT f t) F B := by
        unfold f_Event_insert_49 f_Event_insert_69
        rw [if_pos ⟨(by first | decide | omega), h1⟩, if_pos (by unfold r32; omega), E1, if_pos (by unfold r32; omega)]
        by_cases y : c ≤ a
        · rw [if_pos y, if_pos ⟨(by first | decide | omega), h1⟩]
        · have g := gt a (by first | decide | omega) (by first | decide | omega)
          have g2 := (E4 a (by first | decide | omega) (by first | decide | omega)).2.2.1
          rw [if_neg y, if_pos (by first | decide | omega), if_pos (by unfold r32; omega), if_pos (by unfold r32; omega), if_neg (by first | decide | omega), if_pos ⟨(by first | decide | omega), h1⟩]
      have eqR : ∀ k, 6 * x ≤ k → k < 6 * x + c → Bm 13 w 28 k = B 1 0 12 (k - 6 * x) := fun k u v => by
        rw [(E4 (k - 6 * x) (by first | decide | omega) (by first | decide | omega)).1, show 6 * x + (k - 6 * x) = k by omega]
      obtain ⟨B', g, g1, g2, g3⟩ := C75 (K := K) (F := F) (e := 0) (s := s) (al := alT f t) (a := a) ⟨(by first | decide | omega), h1⟩ u1 (c - a).toNat K.1 (l := c) (B := B) (by first | decide | omega) (by first | decide | omega) (by first | decide | omega)
      obtain ⟨Bm', m, m1, m2', m3, m4⟩ := L135 (Km := Km) (rec' := f_M_spell_53 Km p) (F := Fm) (w := w) (s := s) (l6 := ocT f t) (al := alT f t) (le := leT f t) (x := x) (t := t) (a := 6 * x + a) hw h6 s0.1 s0.2 hx (by first | decide | omega) (c - a).toNat Km (l := 6 * x + c) (B := Bm) (by first | decide | omega) (by first | decide | omega) (by first | decide | omega) (fun k u v => rr k (by first | decide | omega) v u) (fun k u v => by rw [eqR k (by first | decide | omega) v]; exact gt _ (by first | decide | omega) (by first | decide | omega)) (by
        by_cases y : a = 0
        · exact Or.inl (by first | decide | omega)
        · right
          rw [eqR _ (by first | decide | omega) (by first | decide | omega)]
          have := lt (6 * x + a - 1 - 6 * x) (by first | decide | omega) (by first | decide | omega)
          omega)
      have nx : f_M_spell_53 Km p (ocT f t + 1) (alT f t) (leT f t) x t Fm Bm' = some (0, Fm, Bm') := L_s53n hf ht (9 - (ocT f t + 1)).toNat p (ocT f t + 1) (by first | decide | omega) (by first | decide | omega) (by first | decide | omega) (Or.inl (by first | decide | omega))
      rw [h49, g, zb_s, L106n hw h6 (by unfold r32; omega) (by first | decide | omega) (fun k u v y => ⟨rr k u v y, by
        rw [eqR k y v]
        by_cases q : k - 6 * x < a
        · have := lt _ (by first | decide | omega) q
          omega
        · have := gt (k - 6 * x) (by first | decide | omega) (by first | decide | omega)
          omega⟩) c.toNat Km (by first | decide | omega) (by first | decide | omega) (by first | decide | omega) (by first | decide | omega) (by first | decide | omega), m, nx]
      refine P_some ⟨rfl, fun c y k n => by rw [zup3_v, if_neg (by first | decide | omega)], g3, fun c' i k y n => ?_, c + 1, (by first | decide | omega), ?_, ?_, (by first | decide | omega), ?_, ?_⟩
      · by_cases q : c' = 13 ∧ i = w ∧ (k = 28 ∨ k = 29)
        · obtain ⟨rfl, rfl, q⟩ := q
          rcases q with rfl | rfl
          · rw [m1, shf_o (by first | decide | omega)]
          · rw [m2', shf_o (by first | decide | omega)]
        · exact m4 c' i k y (by first | decide | omega)
      · rw [E1, zup3_v, if_pos (by first | decide | omega)]
      · rw [m3, E2]
      · intro k u v
        rw [g1, g2, m1, m2']
        by_cases y : k = a
        · rw [shf_a y, shf_a y, shf_a (by first | decide | omega), shf_a (by first | decide | omega)]
          exact ⟨rfl, rfl, s0, a4⟩
        · by_cases q : a < k
          · rw [shf_m q (by first | decide | omega), shf_m q (by first | decide | omega), shf_m (by first | decide | omega) (by first | decide | omega), shf_m (by first | decide | omega) (by first | decide | omega)]
            have := E4 (k - 1) (by first | decide | omega) (by first | decide | omega)
            rw [show 6 * x + (k - 1) = 6 * x + k - 1 by omega] at this
            exact this
          · rw [shf_o (by first | decide | omega), shf_o (by first | decide | omega), shf_o (by first | decide | omega), shf_o (by first | decide | omega)]
            exact E4 k u (by first | decide | omega)
      · intro j k u v q
        rw [g1, g1]
        have val : ∀ k, 0 ≤ k → k < c + 1 → (k < a → shf a c s (B 1 0 12) k = B 1 0 12 k) ∧ (k = a → shf a c s (B 1 0 12) k = s) ∧ (a < k → shf a c s (B 1 0 12) k = B 1 0 12 (k - 1)) := fun k k0 k1 => ⟨fun h => shf_o (by first | decide | omega), fun h => shf_a h, fun h => shf_m h (by first | decide | omega)⟩
        obtain ⟨j1, j2, j3⟩ := val j u (by first | decide | omega)
        obtain ⟨k1, k2, k3⟩ := val k (by first | decide | omega) q
        by_cases y : j < a
        · rw [j1 y]
          by_cases y2 : k < a
          · rw [k1 y2]; exact E5 j k u v (by first | decide | omega)
          · by_cases y3 : k = a
            · rw [k2 y3]; exact lt j u y
            · rw [k3 (by first | decide | omega)]
              have := lt j u y
              have := gt (k - 1) (by first | decide | omega) (by first | decide | omega)
              omega
        · by_cases y2 : j = a
          · rw [j2 y2, k3 (by first | decide | omega)]; exact gt (k - 1) (by first | decide | omega) (by first | decide | omega)
          · rw [j3 (by first | decide | omega), k3 (by first | decide | omega)]
            exact E5 (j - 1) (k - 1) (by first | decide | omega) (by first | decide | omega) (by first | decide | omega)
  · rw [if_neg oc]
    have e4 : ocT f t = (t - ntl (leT f t) - alT f t) / 12 - 1 := rfl
    rw [L_s53n hf ht 9 Km 0 (by first | decide | omega) (by first | decide | omega) (by first | decide | omega) (by first | decide | omega)]
    exact P_some ⟨rfl, fun _ _ _ _ => rfl, fun _ _ _ _ _ => rfl, fun _ _ _ _ _ => rfl, c, (by first | decide | omega), hE⟩
/-- six tones at most, from the lowest on -/
def SXt (S : Int → Prop) (c : Int) (τ : Int → Int) : Prop := (0 ≤ c ∧ c ≤ 6) ∧ (∀ k, 0 ≤ k → k < c → S (τ k) ∧ 0 ≤ τ k ∧ τ k < 128) ∧ (∀ j k, 0 ≤ j → j < k → k < c → τ j < τ k) ∧ (∀ x, S x → (∃ k, 0 ≤ k ∧ k < c ∧ τ k = x) ∨ (c = 6 ∧ τ 5 < x))
theorem P_spE {K : zK} {Km : Nat} {o f x w c : Int} {S : Int → Prop} {τ : Int → Int} {Fm : zF} (h7 : 0 < K.2 7) (h1 : 0 < K.2 1) (hK : 200 ≤ K.1) (hKm : 200 ≤ Km) (hf : -7 ≤ f ∧ f ≤ 7) (hw : Fm 14 0 6 = w) (h6 : 0 ≤ w ∧ w < 3) (m2 : Fm 13 w 2 = f) (hx : 0 ≤ x ∧ x < 4000) (sx : SXt S c τ) : ∀ (d m1 m3 : Nat) (l k n : Int) (F : zF) (B : zB) (Bm : zB), l + d = 128 → 0 ≤ l → d < m1 → 0 ≤ k → k ≤ c → (c - k).toNat < m3 → n ≤ k → (∀ j, 0 ≤ j → j < k → τ j < l) → (∀ j, k ≤ j → j < c → l ≤ τ j) → (∀ y, 0 ≤ y → y < 128 → (B 7 0 8 y = 0 ∧ ¬ S y) ∨ (B 7 0 8 y = 1 ∧ S y)) → (F 7 0 0 = o ∧ 0 ≤ o ∧ o < K.2 8) → F 7 0 4 = 0 → B 8 o 0 2 = f → (∀ j, 0 ≤ j → j < c → Bm 14 0 95 j = τ j) → EPR 0 x w n F B Bm → zP (f_Scribe_spellEvent_12 K m1 l k 0 F B) (f_M_downEvent_102 Km m3 k x c Fm Bm) (fun _ F' B' _ Fm' Bm' => Fm' = Fm ∧ spF F F' ∧ spB B B' ∧ spM x w Bm Bm' ∧ ∃ n', EPR 0 x w n' F' B' Bm') := by
  obtain ⟨c0, s1, s2, s3⟩ := sx
  have fin : ∀ (m3 : Nat) (F : zF) (B : zB) (Bm : zB) (n : Int), 0 < m3 → EPR 0 x w n F B Bm → zP (some (0, F, B)) (f_M_downEvent_102 Km m3 c x c Fm Bm) (fun _ F' B' _ Fm' Bm' => Fm' = Fm ∧ spF F F' ∧ spB B B' ∧ spM x w Bm Bm' ∧ ∃ n', EPR 0 x w n' F' B' Bm') := fun m3 F B Bm n hm hE => by
    obtain ⟨p, rfl⟩ : ∃ p, m3 = p + 1 := ⟨m3 - 1, (by first | decide | omega)⟩
    rw [f_M_downEvent_102, if_pos (by unfold r32; omega), if_pos (by unfold r32; omega), if_pos (by first | decide | omega)]
    exact P_some ⟨rfl, fun _ _ _ _ => rfl, fun _ _ _ _ _ => rfl, fun _ _ _ _ _ => rfl, n, hE⟩
  intro d
  induction d with
  | zero =>
    intro m1 m3 l k n F B Bm e l0 lm k0 kc mm nk hl hg hB f0 f4 b2 h95 hE
    obtain ⟨p, rfl⟩ : ∃ p, m1 = p + 1 := ⟨m1 - 1, (by first | decide | omega)⟩
    have kc' : k = c := by
      rcases Int.lt_or_le k c with z | z
      · have := hg k (by first | decide | omega) z
        have := (s1 k k0 z).2
        omega
      · omega
    subst kc'
    rw [f_Scribe_spellEvent_12, if_pos ⟨(by first | decide | omega), h7⟩, if_pos (by unfold r32; omega), if_pos (by first | decide | omega), f_Scribe_spellEvent_50]
    exact fin m3 F B Bm n (by first | decide | omega) hE
  | succ d ih =>
    intro m1 m3 l k n F B Bm e l0 lm k0 kc mm nk hl hg hB f0 f4 b2 h95 hE
    obtain ⟨p, rfl⟩ : ∃ p, m1 = p + 1 := ⟨m1 - 1, (by first | decide | omega)⟩
    rw [f_Scribe_spellEvent_12, if_pos ⟨(by first | decide | omega), h7⟩, if_pos (by unfold r32; omega), if_neg (by first | decide | omega), if_pos (by unfold r32; omega)]
    by_cases k6 : 6 ≤ k
    · have kc' : k = c := by omega
      subst kc'
      rw [if_pos k6, f_Scribe_spellEvent_50]
      exact fin m3 F B Bm n (by first | decide | omega) hE
    · rw [if_neg k6, if_pos (by first | decide | omega)]
      rcases hB l l0 (by first | decide | omega) with ⟨z1, z2⟩ | ⟨z1, z2⟩
      · rw [z1, if_pos (by decide), if_pos rfl, f_Scribe_spellEvent_44]
        refine ih p m3 (l + 1) k n F B Bm (by first | decide | omega) (by first | decide | omega) (by first | decide | omega) k0 kc mm nk (fun j a b => by have := hl j a b; omega) (fun j a b => ?_) hB f0 f4 b2 h95 hE
        have := hg j a b
        by_cases y : τ j = l
        · have := (s1 j (by first | decide | omega) b).1
          rw [y] at this
          exact absurd this z2
        · omega
      · have ek : k < c ∧ τ k = l := by
          rcases s3 l z2 with ⟨j, j0, j1, j2⟩ | ⟨c6, c7⟩
          · by_cases y : j < k
            · have := hl j j0 y; omega
            · by_cases y2 : j = k
              · rw [← y2]; exact ⟨j1, j2⟩
              · have := s2 k j k0 (by first | decide | omega) j1
                have := hg k (by first | decide | omega) (by first | decide | omega)
                omega
          · have := hg 5
            by_cases y : k ≤ 5
            · have := hg 5 y (by first | decide | omega)
              omega
            · omega
        obtain ⟨r, rfl⟩ : ∃ p, m3 = p + 1 := ⟨m3 - 1, (by first | decide | omega)⟩
        rw [z1, if_pos (by decide), if_neg (by decide), f_M_downEvent_102, if_pos (by unfold r32; omega), if_pos (by unfold r32; omega), if_neg (by first | decide | omega), if_pos (by first | decide | omega), h95 k k0 ek.1, ek.2]
        have hc : n ≤ 5 := by omega
        refine P_bind (P_spl (Km := Km) h7 h1 (by first | decide | omega) (by first | decide | omega) hf ⟨l0, (by first | decide | omega)⟩ f0 f4 b2 hw h6 m2 hx hE hc) (fun _ F1 B1 _ G1 D1 y => ?_)
        obtain ⟨rfl, y1, y2, y3, n', y4, y5⟩ := y
        rw [f_Scribe_spellEvent_44]
        obtain ⟨a1, F2, B2, a2, G2, D2, x1, x2, rfl, x3, x4, x5, x6⟩ := ih p r (l + 1) (k + 1) n' F1 B1 D1 (by first | decide | omega) (by first | decide | omega) (by first | decide | omega) (by first | decide | omega) (by first | decide | omega) (by first | decide | omega) (by first | decide | omega) (fun j a b => by
          by_cases y : j = k
          · rw [y, ek.2]; omega
          · have := hl j a (by first | decide | omega); omega) (fun j a b => by have := s2 k j k0 (by first | decide | omega) b; omega) (fun y a b => by rw [y2 7 0 8 y (by first | decide | omega)]; exact hB y a b) (by rw [y1 7 0 0 (by first | decide | omega)]; exact f0) (by rw [y1 7 0 4 (by first | decide | omega)]; exact f4) (by rw [y2 8 o 0 2 (by first | decide | omega)]; exact b2) (fun j a b => by rw [y3 14 0 95 j (by first | decide | omega)]; exact h95 j a b) y5
        exact ⟨a1, F2, B2, a2, _, D2, x1, x2, rfl, fun c y k n => by rw [x3 c y k n, y1 c y k n], fun c y k x n => by rw [x4 c y k x n, y2 c y k x n], fun c y k x n => by rw [x5 c y k x n, y3 c y k x n], x6⟩
end
end
section
section
/-! ===== the reference: six tones, a chord's event ===== -/
def MFq (w D N : Int) (bg en tn tk : Int → Int) (F : zF) (B : zB) : Prop := (F 14 0 6 = w ∧ 0 ≤ w ∧ w < 3) ∧ B 14 0 73 1 = D ∧ B 14 0 73 7 = N ∧ ∀ i, 0 ≤ i → i < N → B 14 0 75 i = tk i ∧ B 14 0 77 i = tn i ∧ B 14 0 79 i = bg i ∧ B 14 0 80 i = en i
theorem MFq_f {w D N : Int} {bg en tn tk : Int → Int} {F F' : zF} {B B' : zB} (h : MFq w D N bg en tn tk F B) (f : F' 14 0 6 = F 14 0 6) (b : ∀ k x, 73 ≤ k → k ≤ 81 → B' 14 0 k x = B 14 0 k x) : MFq w D N bg en tn tk F' B' := by
  obtain ⟨h1, h2, h3, h4⟩ := h
  refine ⟨by rw [f]; exact h1, by rw [b 73 _ (by first | decide | omega) (by first | decide | omega)]; exact h2, by rw [b 73 _ (by first | decide | omega) (by first | decide | omega)]; exact h3, fun i i0 i1 => ?_⟩
  rw [b 75 _ (by first | decide | omega) (by first | decide | omega), b 77 _ (by first | decide | omega) (by first | decide | omega), b 79 _ (by first | decide | omega) (by first | decide | omega), b 80 _ (by first | decide | omega) (by first | decide | omega)]
  exact h4 i i0 i1
section
variable {Km : Nat} {w g D N : Int} {bg en tn tk : Int → Int}
theorem M_gp {F : zF} {B : zB} {t : Int} (dq : DTq g D N bg en tn tk) (h : MFq w D N bg en tn tk F B) (ht : 0 ≤ t ∧ t ≤ 402921619456) : f_M_gridPlace Km t g F B = some (gplF g D t, F, B) := by
  obtain ⟨hg, hD, _⟩ := dq
  obtain ⟨h1, h2, h3, h4⟩ := h
  have x0 : 0 ≤ 2 * t * g + 4 * D ∧ 2 * t * g + 4 * D ≤ 30000000000000 := by rcases hg with rfl | rfl | rfl | rfl <;> omega
  unfold f_M_gridPlace gplF
  rw [if_pos (by unfold r32; omega), h2, if_pos (by unfold r32; omega), if_pos (lI_n0 (by first | decide | omega) (by unfold r64; omega)), zldv_e x0.1 (by first | decide | omega) (by first | decide | omega) (by first | decide | omega)]
/-- the least tone above a, of the sounds s .. t - 1 -/
theorem M_s19 {rec' : Int → Int → Int → Int → zF → zB → zO} {s t a n : Int} {F : zF} {B : zB} (dq : DTq g D N bg en tn tk) (h : MFq w D N bg en tn tk F B) (hs : 0 ≤ s ∧ t ≤ N) (ha : -1 ≤ a ∧ a < 128) (hn : 0 ≤ n ∧ n < 6) : ∀ (d m : Nat) (i L : Int), i + d = t → s ≤ i → d < m → ((L = 128 ∨ (a < L ∧ L < 128 ∧ ∃ j, s ≤ j ∧ j < i ∧ tn j = L)) ∧ ∀ j, s ≤ j → j < i → tn j ≤ a ∨ L ≤ tn j) → ∃ L', f_M_six_19 rec' Km m i L a n s t F B = (if L' = 128 then some (n, F, B) else rec' L' (n + 1) s t F (zup4 B 14 0 95 n L')) ∧ (L' = 128 ∨ (a < L' ∧ L' < 128 ∧ ∃ j, s ≤ j ∧ j < t ∧ tn j = L')) ∧ ∀ j, s ≤ j → j < t → tn j ≤ a ∨ L' ≤ tn j := by
  have hN := dq.2.2.1
  obtain ⟨h1, h2, h3, h4⟩ := h
  intro d
  induction d with
  | zero =>
    intro m i L e si hm hL
    obtain ⟨p, rfl⟩ : ∃ p, m = p + 1 := ⟨m - 1, (by first | decide | omega)⟩
    have : i = t := by omega
    subst this
    refine ⟨L, ?_, hL⟩
    rw [f_M_six_19, if_pos (by unfold r32; omega), if_pos (by unfold r32; omega), if_pos (by first | decide | omega), if_pos (by unfold r32; omega), if_pos hn]
  | succ d ih =>
    intro m i L e si hm hL
    obtain ⟨p, rfl⟩ : ∃ p, m = p + 1 := ⟨m - 1, (by first | decide | omega)⟩
    have b := (h4 i (by first | decide | omega) (by first | decide | omega)).2.1
    have dd := (dq.2.2.2.1 i (by first | decide | omega) (by first | decide | omega)).2.1
    rw [f_M_six_19, if_pos (by unfold r32; omega), if_pos (by unfold r32; omega), if_neg (by first | decide | omega), if_pos (by first | decide | omega), b, if_pos (by unfold r32; omega), if_pos (by unfold r32; omega)]
    unfold f_M_six_58
    by_cases c : tn i ≤ a
    · rw [if_pos c]
      refine ih p (i + 1) L (by first | decide | omega) (by first | decide | omega) (by first | decide | omega) ⟨?_, fun j j0 j1 => ?_⟩
      · rcases hL.1 with z | ⟨z1, z2, j, z3, z4, z5⟩
        · exact Or.inl z
        · exact Or.inr ⟨z1, z2, j, z3, (by first | decide | omega), z5⟩
      · by_cases y : j = i
        · rw [y]; exact Or.inl c
        · exact hL.2 j j0 (by first | decide | omega)
    · rw [if_neg c, if_pos (by unfold r32; omega)]
      by_cases c2 : L ≤ tn i
      · rw [if_pos c2]
        refine ih p (i + 1) L (by first | decide | omega) (by first | decide | omega) (by first | decide | omega) ⟨?_, fun j j0 j1 => ?_⟩
        · rcases hL.1 with z | ⟨z1, z2, j, z3, z4, z5⟩
          · exact Or.inl z
          · exact Or.inr ⟨z1, z2, j, z3, (by first | decide | omega), z5⟩
        · by_cases y : j = i
          · rw [y]; exact Or.inr c2
          · exact hL.2 j j0 (by first | decide | omega)
      · rw [if_neg c2]
        refine ih p (i + 1) (tn i) (by first | decide | omega) (by first | decide | omega) (by first | decide | omega) ⟨Or.inr ⟨(by first | decide | omega), (by first | decide | omega), i, si, (by first | decide | omega), rfl⟩, fun j j0 j1 => ?_⟩
        by_cases y : j = i
        · rw [y]; exact Or.inr (by first | decide | omega)
        · rcases hL.2 j j0 (by first | decide | omega) with z | z
          · exact Or.inl z
          · exact Or.inr (by first | decide | omega)
def toneS (tn : Int → Int) (s t x : Int) : Prop := ∃ i, s ≤ i ∧ i < t ∧ tn i = x
theorem M_s5 {s t : Int} {F : zF} (dq : DTq g D N bg en tn tk) (hKm : 500 ≤ Km) (hs : 0 ≤ s ∧ s ≤ t ∧ t ≤ N) : ∀ (d m : Nat) (n a : Int) (B : zB), n + d = 6 → 0 ≤ n → d < m → (-1 ≤ a ∧ a < 128) → MFq w D N bg en tn tk F B → (∀ k, 0 ≤ k → k < n → toneS tn s t (B 14 0 95 k) ∧ 0 ≤ B 14 0 95 k ∧ B 14 0 95 k < 128) → (∀ j k, 0 ≤ j → j < k → k < n → B 14 0 95 j < B 14 0 95 k) → (∀ x, toneS tn s t x → x ≤ a → ∃ k, 0 ≤ k ∧ k < n ∧ B 14 0 95 k = x) → (∀ k, 0 ≤ k → k < n → B 14 0 95 k ≤ a) → (0 < n → B 14 0 95 (n - 1) = a) → ∃ c B', f_M_six_5 Km m a n s t F B = some (c, F, B') ∧ SXt (toneS tn s t) c (B' 14 0 95) ∧ (∀ c i k y, ¬ (c = 14 ∧ i = 0 ∧ k = 95) → B' c i k y = B c i k y) := by
  intro d
  induction d with
  | zero =>
    intro m n a B e n0 hm ha hM k1 k2 k3 k4 k5
    obtain ⟨p, rfl⟩ : ∃ p, m = p + 1 := ⟨m - 1, (by first | decide | omega)⟩
    have : n = 6 := by omega
    subst this
    refine ⟨6, B, ?_, ⟨(by first | decide | omega), k1, k2, fun x hx => ?_⟩, fun _ _ _ _ _ => rfl⟩
    · rw [f_M_six_5, if_pos (by decide), if_pos (by decide)]
    · by_cases y : x ≤ a
      · exact Or.inl (k3 x hx y)
      · refine Or.inr ⟨rfl, ?_⟩
        have := k5 (by decide)
        rw [show (6 : Int) - 1 = 5 from rfl] at this
        omega
  | succ d ih =>
    intro m n a B e n0 hm ha hM k1 k2 k3 k4 k5
    obtain ⟨p, rfl⟩ : ∃ p, m = p + 1 := ⟨m - 1, (by first | decide | omega)⟩
    obtain ⟨L, e1, e2, e3⟩ := M_s19 (Km := Km) (rec' := f_M_six_5 Km p) (s := s) (t := t) (a := a) (n := n) dq hM ⟨hs.1, hs.2.2⟩ ha (by first | decide | omega) (t - s).toNat Km s 128 (by first | decide | omega) (by first | decide | omega) (by have := dq.2.2.1; omega) ⟨Or.inl rfl, fun j a b => (by first | decide | omega)⟩
    rw [f_M_six_5, if_pos (by unfold r32; omega), if_neg (by first | decide | omega), e1]
    by_cases c : L = 128
    · rw [if_pos c]
      refine ⟨n, B, rfl, ⟨(by first | decide | omega), k1, k2, fun x hx => Or.inl (k3 x hx ?_)⟩, fun _ _ _ _ _ => rfl⟩
      obtain ⟨i, i0, i1, i2⟩ := hx
      have := (dq.2.2.2.1 i (by first | decide | omega) (by first | decide | omega)).2.1
      rcases e3 i i0 i1 with z | z <;> omega
    · rw [if_neg c]
      obtain ⟨l1, l2, j, l3, l4, l5⟩ := e2.resolve_left c
      have old : ∀ k, k < n → (zup4 B 14 0 95 n L) 14 0 95 k = B 14 0 95 k := fun k hk => by rw [zup4_v, if_neg (by first | decide | omega)]
      have new : (zup4 B 14 0 95 n L) 14 0 95 n = L := by rw [zup4_v, if_pos (by first | decide | omega)]
      obtain ⟨c', B', x1, x2, x3⟩ := ih p (n + 1) L (zup4 B 14 0 95 n L) (by first | decide | omega) (by first | decide | omega) (by first | decide | omega) (by first | decide | omega) (MFq_f hM rfl (fun k x _ _ => by rw [zup4_v, if_neg (by first | decide | omega)])) (fun k a b => by
          by_cases y : k = n
          · rw [y, new]; exact ⟨⟨j, l3, l4, l5⟩, (by first | decide | omega), l2⟩
          · rw [old k (by first | decide | omega)]; exact k1 k a (by first | decide | omega)) (fun i k a b cc => by
          by_cases y : k = n
          · rw [y, new, old i (by first | decide | omega)]; have := k4 i a (by first | decide | omega); omega
          · rw [old i (by first | decide | omega), old k (by first | decide | omega)]; exact k2 i k a b (by first | decide | omega)) (fun x hx hl => by
          by_cases y : x ≤ a
          · obtain ⟨k, a1, a2, a3⟩ := k3 x hx y
            exact ⟨k, a1, (by first | decide | omega), by rw [old k a2]; exact a3⟩
          · obtain ⟨i, i0, i1, i2⟩ := hx
            rcases e3 i i0 i1 with z | z
            · omega
            · exact ⟨n, (by first | decide | omega), (by first | decide | omega), by rw [new]; omega⟩) (fun k a b => by
          by_cases y : k = n
          · rw [y, new]; omega
          · rw [old k (by first | decide | omega)]; have := k4 k a (by first | decide | omega); omega) (fun _ => by rw [show n + 1 - 1 = n by omega]; exact new)
      exact ⟨c', B', x1, x2, fun c i k y n => by rw [x3 c i k y n, zup4_v, if_neg (by first | decide | omega)]⟩
theorem M_six {s t : Int} {F : zF} {B : zB} (dq : DTq g D N bg en tn tk) (hKm : 500 ≤ Km) (hs : 0 ≤ s ∧ s ≤ t ∧ t ≤ N) (hM : MFq w D N bg en tn tk F B) : ∃ c B', f_M_six Km s t F B = some (c, F, B') ∧ SXt (toneS tn s t) c (B' 14 0 95) ∧ (∀ c i k y, ¬ (c = 14 ∧ i = 0 ∧ k = 95) → B' c i k y = B c i k y) :=
  M_s5 dq hKm hs 6 Km 0 (-1) B (by first | decide | omega) (by first | decide | omega) (by first | decide | omega) (by first | decide | omega) hM (fun k a b => (by first | decide | omega)) (fun j k a b c => (by first | decide | omega)) (fun x hx hl => by
    obtain ⟨i, i0, i1, i2⟩ := hx
    have := (dq.2.2.2.1 i (by first | decide | omega) (by first | decide | omega)).2.1
    omega) (fun k a b => (by first | decide | omega)) (fun z => (by first | decide | omega))
/-- what the class makes of the tones of the sounds s .. t - 1 -/
def PCH (K : zK) (o f : Int) (tn : Int → Int) (s t m : Int) (st al : Int → Int) : Prop := (0 ≤ m ∧ m ≤ 6) ∧ (∀ k, 0 ≤ k → k < m → (0 ≤ st k ∧ st k ≤ 62) ∧ (-7 ≤ al k ∧ al k ≤ 7)) ∧ ∀ F B, (F 7 0 0 = o ∧ 0 ≤ o ∧ o < K.2 8) → F 7 0 4 = 0 → B 8 o 0 2 = f → HTn tn s t B → ∃ r F' B', f_Scribe_spellEvent K 0 F B = some (r, F', B') ∧ spF F F' ∧ spB B B' ∧ EVq m st al (F', B')
/-- row x of the reference's events: its length in parts of the grid, its tones -/
def EVr (g w x len m : Int) (st al : Int → Int) (B : zB) : Prop := (0 ≤ m ∧ m ≤ 6) ∧ B 13 w 16 x = len / gc len g ∧ B 13 w 17 x = g / gc len g ∧ B 13 w 18 x = 0 ∧ B 13 w 22 x = 0 ∧ B 13 w 21 x = m ∧ ∀ k, 0 ≤ k → k < m → B 13 w 28 (6 * x + k) = st k ∧ B 13 w 29 (6 * x + k) = al k ∧ (0 ≤ st k ∧ st k ≤ 62) ∧ (-7 ≤ al k ∧ al k ≤ 7)
/-- what a new event of voice v may change -/
def deM (w v x : Int) (B B' : zB) : Prop := ∀ c i k y, ¬ (c = 13 ∧ i = w ∧ ((k = 12 ∧ y = v) ∨ ((k = 16 ∨ k = 17 ∨ k = 18 ∨ k = 21 ∨ k = 22) ∧ y = x) ∨ ((k = 28 ∨ k = 29) ∧ 6 * x ≤ y ∧ y < 6 * x + 6))) → B' c i k y = B c i k y
theorem M_de {K : zK} {o f v j len s t c : Int} {F : zF} {B : zB} (h7 : 0 < K.2 7) (h1 : 0 < K.2 1) (hK : 200 ≤ K.1) (hKm : 500 ≤ Km) (hg : g = 4 ∨ g = 8 ∨ g = 16 ∨ g = 32) (hf : -7 ≤ f ∧ f ≤ 7) (hw : F 14 0 6 = w ∧ 0 ≤ w ∧ w < 3) (m2 : F 13 w 2 = f) (v0 : 0 ≤ v ∧ v < 4) (ej : B 13 w 12 v = j) (j0 : 0 ≤ j ∧ j < 1000) (hl : 0 ≤ len ∧ len ≤ 100000000000000) (hts : ∀ i, s ≤ i → i < t → 0 ≤ tn i ∧ tn i < 128) (ho : 0 ≤ o ∧ o < K.2 8) (sx : SXt (toneS tn s t) c (B 14 0 95)) : ∃ r F' B' m st al, f_M_downEvent Km v len g c F B = some (r, F', B') ∧ (∀ c y k, ¬ (c = 14 ∧ y = 0 ∧ k ≤ 1) → F' c y k = F c y k) ∧ deM w v (1000 * v + j) B B' ∧ B' 13 w 12 v = j + 1 ∧ EVr g w (1000 * v + j) len m st al B' ∧ PCH K o f tn s t m st al := by
  unfold f_M_downEvent
  rw [hw.1, if_pos hw.2, if_pos v0, if_pos (by unfold r32; omega), ej, L_is hl.1 (by first | decide | omega) (by first | decide | omega) (by first | decide | omega) (by first | decide | omega), zb_s]
  generalize hF1 : zup3 (zup3 F 14 0 0 (len / gc len g)) 14 0 1 (g / gc len g) = F1
  have fn : ∀ c y k, ¬ (c = 14 ∧ y = 0 ∧ k ≤ 1) → F1 c y k = F c y k := fun c y k n => by rw [← hF1, zup3_v, if_neg (by first | decide | omega), zup3_v, if_neg (by first | decide | omega)]
  have v0' : F1 14 0 0 = len / gc len g := by rw [← hF1, zup3_v, if_neg (by first | decide | omega), zup3_v, if_pos (by first | decide | omega)]
  have v1' : F1 14 0 1 = g / gc len g := by rw [← hF1, zup3_v, if_pos (by first | decide | omega)]
  rw [fn 14 0 6 (by first | decide | omega), hw.1, if_pos hw.2, if_pos (by first | decide | omega), v0', v1']
  generalize hx : 1000 * v + j = x
  generalize hB1 : zup4 (zup4 (zup4 (zup4 (zup4 (zup4 B 13 w 12 v (j + 1)) 13 w 16 x (len / gc len g)) 13 w 17 x (g / gc len g)) 13 w 18 x 0) 13 w 22 x 0) 13 w 21 x 0 = B1
  have bn : deM w v x B B1 := fun c i k y n => by rw [← hB1, zup4_v, if_neg (by first | decide | omega), zup4_v, if_neg (by first | decide | omega), zup4_v, if_neg (by first | decide | omega), zup4_v, if_neg (by first | decide | omega), zup4_v, if_neg (by first | decide | omega), zup4_v, if_neg (by first | decide | omega)]
  have b12 : B1 13 w 12 v = j + 1 := by rw [← hB1]; simp [zup4_v]
  have b16 : B1 13 w 16 x = len / gc len g := by rw [← hB1]; simp [zup4_v]
  have b17 : B1 13 w 17 x = g / gc len g := by rw [← hB1]; simp [zup4_v]
  have b18 : B1 13 w 18 x = 0 := by rw [← hB1]; simp [zup4_v]
  have b22 : B1 13 w 22 x = 0 := by rw [← hB1]; simp [zup4_v]
  have b21 : B1 13 w 21 x = 0 := by rw [← hB1]; simp [zup4_v]
  have h95 : ∀ k, B1 14 0 95 k = B 14 0 95 k := fun k => bn 14 0 95 k (by first | decide | omega)
  -- for every world of the class
  have two : ∀ (F0 : zF) (B0 : zB), (F0 7 0 0 = o ∧ 0 ≤ o ∧ o < K.2 8) → F0 7 0 4 = 0 → B0 8 o 0 2 = f → HTn tn s t B0 → zP (f_Scribe_spellEvent K 0 F0 B0) (f_M_downEvent_102 Km Km 0 x c F1 B1) (fun _ F' B' _ Fm' Bm' => Fm' = F1 ∧ spF F0 F' ∧ spB B0 B' ∧ spM x w B1 Bm' ∧ ∃ n', EPR 0 x w n' F' B' Bm') := fun F0 B0 f0 f4 b2 ht => by
    unfold f_Scribe_spellEvent
    rw [if_pos ⟨(by first | decide | omega), h7⟩, f4, if_pos ⟨(by first | decide | omega), h1⟩]
    have z0 : ∀ c y k, ¬ (c = 1 ∧ y = 0 ∧ k = 10) → (zup3 F0 1 0 10 0) c y k = F0 c y k := fun c y k n => by rw [zup3_v, if_neg (by first | decide | omega)]
    obtain ⟨a1, F2, B2, a2, G2, D2, x1, x2, x3, x4, x5, x6, x7⟩ := P_spE (K := K) (Km := Km) (o := o) (f := f) (x := x) (w := w) (c := c) (S := toneS tn s t) (τ := B1 14 0 95) (Fm := F1) h7 h1 hK (by first | decide | omega) hf (by rw [fn 14 0 6 (by first | decide | omega)]; exact hw.1) hw.2 (by rw [fn 13 w 2 (by first | decide | omega)]; exact m2) (by first | decide | omega) (by rw [show B1 14 0 95 = B 14 0 95 from funext h95]; exact sx) 128 K.1 Km 0 0 0 (zup3 F0 1 0 10 0) B0 B1 (by first | decide | omega) (by first | decide | omega) (by first | decide | omega) (by first | decide | omega) sx.1.1 (by have := sx.1; omega) (by first | decide | omega) (fun j a b => (by first | decide | omega)) (fun j a b => by rw [h95]; exact (sx.2.1 j a b).2.1) (fun y a b => by
        rcases ht.2 y a b with q | ⟨q, i, i0, i1, i2⟩
        · refine Or.inl ⟨q, fun hh => ?_⟩
          obtain ⟨i, i0, i1, i2⟩ := hh
          have := ht.1 i i0 i1
          rw [i2, q] at this
          exact absurd this (by decide)
        · exact Or.inr ⟨q, i, i0, i1, i2⟩) (by rw [z0 7 0 0 (by first | decide | omega)]; exact f0) (by rw [z0 7 0 4 (by first | decide | omega)]; exact f4) b2 (fun j a b => rfl) ⟨by rw [zup3_v, if_pos (by first | decide | omega)], b21, (by first | decide | omega), fun k a b => (by first | decide | omega), fun j k a b c => (by first | decide | omega)⟩
    exact ⟨a1, F2, B2, a2, G2, D2, x1, x2, x3, fun c y k n => by rw [x4 c y k n, z0 c y k n], x5, x6, x7⟩
  -- one world to see what the reference does
  have dec : ∀ x : Int, Decidable (toneS tn s t x) := fun x => Classical.propDecidable _
  obtain ⟨F0, B0, q1, q2, q3, q4⟩ : ∃ (F0 : zF) (B0 : zB), (F0 7 0 0 = o ∧ 0 ≤ o ∧ o < K.2 8) ∧ F0 7 0 4 = 0 ∧ B0 8 o 0 2 = f ∧ HTn tn s t B0 := by
    refine ⟨fun c y k => if k = 0 then o else 0, fun c y k x => if c = 8 then f else if (dec x).decide then 1 else 0, ⟨rfl, ho⟩, rfl, rfl, fun i i0 i1 => ?_, fun x x0 x1 => ?_⟩
    · show (if (7 : Nat) = 8 then f else if (dec (tn i)).decide = true then 1 else 0) = 1
      rw [if_neg (by decide), if_pos (@decide_eq_true _ (dec (tn i)) ⟨i, i0, i1, rfl⟩)]
    · show (if (7 : Nat) = 8 then f else if (dec x).decide = true then 1 else 0) = 0 ∨ _
      rw [if_neg (by decide)]
      by_cases hh : toneS tn s t x
      · right
        refine ⟨?_, hh⟩
        show (if (7 : Nat) = 8 then f else if (dec x).decide = true then 1 else 0) = 1
        rw [if_neg (by decide), if_pos (@decide_eq_true _ (dec x) hh)]
      · left
        rw [if_neg (fun z => hh (@of_decide_eq_true _ (dec x) z))]
  obtain ⟨a1, F2, B2, a2, G2, D2, x1, x2, rfl, x4, x5, x6, n', x7⟩ := two F0 B0 q1 q2 q3 q4
  obtain ⟨E1, E2, E3, E4, E5⟩ := x7
  refine ⟨a2, _, D2, n', fun k => D2 13 w 28 (6 * x + k), fun k => D2 13 w 29 (6 * x + k), ?_, fn, fun c i k y n => by rw [x6 c i k y (by first | decide | omega), bn c i k y n], by rw [x6 13 w 12 v (by first | decide | omega)]; exact b12, ⟨E3, by rw [x6 13 w 16 x (by first | decide | omega)]; exact b16, by rw [x6 13 w 17 x (by first | decide | omega)]; exact b17, by rw [x6 13 w 18 x (by first | decide | omega)]; exact b18, by rw [x6 13 w 22 x (by first | decide | omega)]; exact b22, E2, fun k k0 k1 => ?_⟩, E3, fun k k0 k1 => ?_, fun F3 B3 r1 r2 r3 r4 => ?_⟩
  · exact x2
  · obtain ⟨y1, y2, y3, y4⟩ := E4 k k0 k1
    refine ⟨rfl, rfl, ?_⟩
    show (0 ≤ D2 13 w 28 (6 * x + k) ∧ D2 13 w 28 (6 * x + k) ≤ 62) ∧ (-7 ≤ D2 13 w 29 (6 * x + k) ∧ D2 13 w 29 (6 * x + k) ≤ 7)
    omega
  · obtain ⟨y1, y2, y3, y4⟩ := E4 k k0 k1
    show (0 ≤ D2 13 w 28 (6 * x + k) ∧ D2 13 w 28 (6 * x + k) ≤ 62) ∧ (-7 ≤ D2 13 w 29 (6 * x + k) ∧ D2 13 w 29 (6 * x + k) ≤ 7)
    omega
  · obtain ⟨b1, F4, B4, b2, G4, D4, y1, y2, y3, y4, y5, y6, n'', y7⟩ := two F3 B3 r1 r2 r3 r4
    rw [x2] at y2
    have ee := Option.some.inj y2
    have eD : D2 = D4 := congrArg (fun z => z.2.2) ee
    subst eD
    obtain ⟨G1, G2', G3, G4', G5⟩ := y7
    have en : n'' = n' := by omega
    subst en
    refine ⟨b1, F4, B4, y1, y4, y5, G1, G3, fun k k0 k1 => ?_⟩
    obtain ⟨y1, y2, y3, y4⟩ := G4' k k0 k1
    refine ⟨y1, y2, ?_⟩
    show (0 ≤ D2 13 w 28 (6 * x + k) ∧ D2 13 w 28 (6 * x + k) ≤ 62) ∧ (-7 ≤ D2 13 w 29 (6 * x + k) ∧ D2 13 w 29 (6 * x + k) ≤ 7)
    omega
end
end
end
section
section
/-! ===== the reference: the events of a track ===== -/
/-- the spans of a voice: where each begins and ends, its tones -/
def GLp (K : zK) (o f : Int) (gB gE tn : Int → Int) (z : Int) : Nat → Int → Int → List (Int × Int × Int × (Int → Int) × (Int → Int)) → Prop
  | 0, _, _, EL => EL = []
  | fu + 1, s, come, EL => if s < z then ∃ m st al rest, EL = (if come < gB s then [(come, gB s, 0, (fun _ => 0), (fun _ => 0))] else []) ++ ((gB s, toG gB gE s z, m, st, al) :: rest) ∧ PCH K o f tn s (nxG gB s z) m st al ∧ GLp K o f gB gE tn z fu (nxG gB s z) (toG gB gE s z) rest else EL = []
def EVL (g w v : Int) (B : zB) : Int → List (Int × Int × Int × (Int → Int) × (Int → Int)) → Prop
  | _, [] => True
  | j, r :: rs => EVr g w (1000 * v + j) (r.2.1 - r.1) r.2.2.1 r.2.2.2.1 r.2.2.2.2 B ∧ EVL g w v B (j + 1) rs
def teM (w v j : Int) (B B' : zB) : Prop := ∀ c i k y, ¬ (c = 13 ∧ i = w ∧ ((k = 12 ∧ y = v) ∨ ((k = 16 ∨ k = 17 ∨ k = 18 ∨ k = 21 ∨ k = 22) ∧ 1000 * v + j ≤ y ∧ y < 1000 * v + 1000) ∨ ((k = 28 ∨ k = 29) ∧ 6 * (1000 * v + j) ≤ y ∧ y < 6 * (1000 * v + 1000)))) → ¬ (c = 14 ∧ i = 0 ∧ k = 95) → B' c i k y = B c i k y
theorem teM_t {w v j j' : Int} {B B1 B2 : zB} (h : teM w v j B B1) (h' : teM w v j' B1 B2) (l : j ≤ j') : teM w v j B B2 := fun c i k y n n' => by rw [h' c i k y (by first | decide | omega) n', h c i k y n n']
theorem EVr_f {g w x len m : Int} {st al : Int → Int} {B B' : zB} (h : EVr g w x len m st al B) (e : ∀ k, k = 16 ∨ k = 17 ∨ k = 18 ∨ k = 21 ∨ k = 22 → B' 13 w k x = B 13 w k x) (e2 : ∀ k y, k = 28 ∨ k = 29 → 6 * x ≤ y → y < 6 * x + 6 → B' 13 w k y = B 13 w k y) : EVr g w x len m st al B' := by
  obtain ⟨h0, h1, h2, h3, h4, h5, h6⟩ := h
  refine ⟨h0, by rw [e 16 (by first | decide | omega)]; exact h1, by rw [e 17 (by first | decide | omega)]; exact h2, by rw [e 18 (by first | decide | omega)]; exact h3, by rw [e 22 (by first | decide | omega)]; exact h4, by rw [e 21 (by first | decide | omega)]; exact h5, fun k k0 k1 => ?_⟩
  rw [e2 28 _ (by first | decide | omega) (by first | decide | omega) (by first | decide | omega), e2 29 _ (by first | decide | omega) (by first | decide | omega) (by first | decide | omega)]
  exact h6 k k0 k1
theorem EVL_f {g w v : Int} {B B' : zB} : ∀ (EL : List (Int × Int × Int × (Int → Int) × (Int → Int))) (j : Int), EVL g w v B j EL → (∀ k y, k = 16 ∨ k = 17 ∨ k = 18 ∨ k = 21 ∨ k = 22 → 1000 * v + j ≤ y → y < 1000 * v + j + (EL.length : Int) → B' 13 w k y = B 13 w k y) → (∀ k y, k = 28 ∨ k = 29 → 6 * (1000 * v + j) ≤ y → y < 6 * (1000 * v + j + (EL.length : Int)) → B' 13 w k y = B 13 w k y) → EVL g w v B' j EL := by
  intro EL
  induction EL with
  | nil => intro j _ _ _; trivial
  | cons r rs ih =>
    intro j h e e2
    have ll : ((r :: rs).length : Int) = (rs.length : Int) + 1 := by rw [List.length_cons]; omega
    rw [ll] at e e2
    exact ⟨EVr_f h.1 (fun k hk => e k _ hk (by first | decide | omega) (by first | decide | omega)) (fun k y hk a b => e2 k y hk (by first | decide | omega) (by first | decide | omega)), ih (j + 1) h.2 (fun k y hk a b => e k y hk (by first | decide | omega) (by first | decide | omega)) (fun k y hk a b => e2 k y hk (by first | decide | omega) (by first | decide | omega))⟩
section
variable {Km : Nat} {K : zK} {o f w g D N : Int} {bg en tn tk : Int → Int}
theorem M_dr {v j len : Int} {F : zF} {B : zB} (hKm : 500 ≤ Km) (hg : g = 4 ∨ g = 8 ∨ g = 16 ∨ g = 32) (hw : F 14 0 6 = w ∧ 0 ≤ w ∧ w < 3) (v0 : 0 ≤ v ∧ v < 4) (ej : B 13 w 12 v = j) (j0 : 0 ≤ j ∧ j < 1000) (hl : 0 ≤ len ∧ len ≤ 100000000000000) : ∃ F' B', f_M_downEvent Km v len g 0 F B = some (0, F', B') ∧ (∀ c y k, ¬ (c = 14 ∧ y = 0 ∧ k ≤ 1) → F' c y k = F c y k) ∧ deM w v (1000 * v + j) B B' ∧ B' 13 w 12 v = j + 1 ∧ EVr g w (1000 * v + j) len 0 (fun _ => 0) (fun _ => 0) B' := by
  unfold f_M_downEvent
  rw [hw.1, if_pos hw.2, if_pos v0, if_pos (by unfold r32; omega), ej, L_is hl.1 (by first | decide | omega) (by first | decide | omega) (by first | decide | omega) (by first | decide | omega), zb_s]
  generalize hF1 : zup3 (zup3 F 14 0 0 (len / gc len g)) 14 0 1 (g / gc len g) = F1
  have fn : ∀ c y k, ¬ (c = 14 ∧ y = 0 ∧ k ≤ 1) → F1 c y k = F c y k := fun c y k n => by rw [← hF1, zup3_v, if_neg (by first | decide | omega), zup3_v, if_neg (by first | decide | omega)]
  have v0' : F1 14 0 0 = len / gc len g := by rw [← hF1, zup3_v, if_neg (by first | decide | omega), zup3_v, if_pos (by first | decide | omega)]
  have v1' : F1 14 0 1 = g / gc len g := by rw [← hF1, zup3_v, if_pos (by first | decide | omega)]
  rw [fn 14 0 6 (by first | decide | omega), hw.1, if_pos hw.2, if_pos (by first | decide | omega), v0', v1']
  generalize hx : 1000 * v + j = x
  obtain ⟨p, ep⟩ : ∃ p, Km = p + 1 := ⟨Km - 1, (by first | decide | omega)⟩
  generalize hB1 : zup4 (zup4 (zup4 (zup4 (zup4 (zup4 B 13 w 12 v (j + 1)) 13 w 16 x (len / gc len g)) 13 w 17 x (g / gc len g)) 13 w 18 x 0) 13 w 22 x 0) 13 w 21 x 0 = B1
  have bn : deM w v x B B1 := fun c i k y n => by rw [← hB1, zup4_v, if_neg (by first | decide | omega), zup4_v, if_neg (by first | decide | omega), zup4_v, if_neg (by first | decide | omega), zup4_v, if_neg (by first | decide | omega), zup4_v, if_neg (by first | decide | omega), zup4_v, if_neg (by first | decide | omega)]
  have b12 : B1 13 w 12 v = j + 1 := by rw [← hB1]; simp [zup4_v]
  have b16 : B1 13 w 16 x = len / gc len g := by rw [← hB1]; simp [zup4_v]
  have b17 : B1 13 w 17 x = g / gc len g := by rw [← hB1]; simp [zup4_v]
  have b18 : B1 13 w 18 x = 0 := by rw [← hB1]; simp [zup4_v]
  have b22 : B1 13 w 22 x = 0 := by rw [← hB1]; simp [zup4_v]
  have b21 : B1 13 w 21 x = 0 := by rw [← hB1]; simp [zup4_v]
  refine ⟨F1, B1, ?_, fn, bn, b12, ⟨(by first | decide | omega), (by first | decide | omega)⟩, b16, b17, b18, b22, b21, fun k a b => (by first | decide | omega)⟩
  have : ∀ i D, f_M_downEvent_102 Km (i + 1) 0 x 0 F1 D = some (0, F1, D) := fun i D => by
    rw [f_M_downEvent_102, if_pos (by decide), if_pos (by decide), if_pos (by decide)]
  have t := this p B1
  rw [← ep] at t
  exact t
theorem M_t161 {rec' : Int → Int → Int → Int → Int → zF → zB → zO} {z s come v x : Int} {F : zF} {B : zB} (dq : DTq g D N bg en tn tk) (hM : MFq w D N bg en tn tk F B) (hz : z ≤ N) (hx : 0 ≤ x ∧ x ≤ 30000000000000) : ∀ (fu m : Nat) (t : Int), z - t ≤ fu → fu < m → 0 ≤ t → t ≤ z → f_M_trackEvents_161 rec' Km m t x z s come v g F B = f_M_trackEvents_192 rec' Km (grN (fun i => gplF g D (bg i)) z x fu t) x z s come v g F B := by
  have hN := dq.2.2.1
  have hM' := hM
  obtain ⟨h1, h2, h3, h4⟩ := hM'
  intro fu
  induction fu with
  | zero =>
    intro m t hf hm t0 tz
    obtain ⟨p, rfl⟩ : ∃ p, m = p + 1 := ⟨m - 1, (by first | decide | omega)⟩
    rw [f_M_trackEvents_161, if_pos (by unfold r32; omega), if_pos (by unfold r32; omega), if_pos (by first | decide | omega), grN]
  | succ fu ih =>
    intro m t hf hm t0 tz
    obtain ⟨p, rfl⟩ : ∃ p, m = p + 1 := ⟨m - 1, (by first | decide | omega)⟩
    rw [f_M_trackEvents_161, if_pos (by unfold r32; omega), if_pos (by unfold r32; omega), grN]
    by_cases c : z ≤ t
    · rw [if_pos c, if_neg (by first | decide | omega)]
    · have b := (h4 t t0 (by first | decide | omega)).2.2.1
      have dd := (dq.2.2.2.1 t t0 (by first | decide | omega)).2.2.1
      have gb := gpl_b (t := bg t) dq.1 dq.2.1 dd
      rw [if_neg c, if_pos (by first | decide | omega), b, M_gp dq hM dd, zb_s, if_pos (by unfold r64; omega), if_pos (by unfold r64; omega)]
      by_cases y : gplF g D (bg t) = x
      · rw [if_pos (zcmp_0.mpr y), if_pos ⟨(by first | decide | omega), y⟩, ih p (t + 1) (by first | decide | omega) (by first | decide | omega) (by first | decide | omega) (by first | decide | omega)]
      · rw [if_neg (fun q => y (zcmp_0.mp q)), if_neg (fun q => y q.2)]
theorem M_t232 {rec' : Int → Int → Int → Int → Int → zF → zB → zO} {z t v x c : Int} {F : zF} {B : zB} (dq : DTq g D N bg en tn tk) (hM : MFq w D N bg en tn tk F B) (hz : z ≤ N) (ht : 0 ≤ t ∧ t ≤ z) : ∀ (d m : Nat) (i a : Int), i + d = t → 0 ≤ i → d < m → (0 ≤ a ∧ a ≤ 40000000000000) → f_M_trackEvents_232 rec' Km m i a c t x z v g F B = f_M_trackEvents_316 rec' Km (if t < z then zmin (mxR (fun i => gplF g D (en i)) d i a) (gplF g D (bg t)) else mxR (fun i => gplF g D (en i)) d i a) c t x z v g F B := by
  have hN := dq.2.2.1
  have hM' := hM
  obtain ⟨h1, h2, h3, h4⟩ := hM'
  intro d
  induction d with
  | zero =>
    intro m i a e i0 hm ha
    obtain ⟨p, rfl⟩ : ∃ p, m = p + 1 := ⟨m - 1, (by first | decide | omega)⟩
    rw [f_M_trackEvents_232, if_pos (by unfold r32; omega), if_pos (by unfold r32; omega), if_pos (by first | decide | omega), if_pos (by unfold r32; omega), mxR]
    by_cases y : z ≤ t
    · rw [if_pos y, if_neg (by first | decide | omega)]
    · have b := (h4 t ht.1 (by first | decide | omega)).2.2.1
      have dd := (dq.2.2.2.1 t ht.1 (by first | decide | omega)).2.2.1
      have gb := gpl_b (t := bg t) dq.1 dq.2.1 dd
      rw [if_neg y, if_pos (by first | decide | omega), b, M_gp dq hM dd, zb_s, if_pos (by unfold r64; omega), if_pos (by unfold r64; omega), b, M_gp dq hM dd, zb_s, if_pos (show t < z by omega)]
      unfold zmin
      by_cases u : a ≤ gplF g D (bg t)
      · rw [if_pos (zcmp_m.mpr u), if_neg (by first | decide | omega)]
      · rw [if_neg (fun q => u (zcmp_m.mp q)), if_pos (by first | decide | omega)]
  | succ d ih =>
    intro m i a e i0 hm ha
    obtain ⟨p, rfl⟩ : ∃ p, m = p + 1 := ⟨m - 1, (by first | decide | omega)⟩
    have b := (h4 i i0 (by first | decide | omega)).2.2.2
    have dd := (dq.2.2.2.1 i i0 (by first | decide | omega)).2.2.2
    have gb := gpl_b (t := en i) dq.1 dq.2.1 dd
    rw [f_M_trackEvents_232, if_pos (by unfold r32; omega), if_pos (by unfold r32; omega), if_neg (by first | decide | omega), if_pos (by first | decide | omega), b, M_gp dq hM dd, zb_s, if_pos (by unfold r64; omega), if_pos (by unfold r64; omega), b, M_gp dq hM dd, zb_s, mxR]
    unfold f_M_trackEvents_271
    have zm : zmax a (gplF g D (en i)) = if gplF g D (en i) ≤ a then a else gplF g D (en i) := by unfold zmax; split <;> split <;> omega
    by_cases u : gplF g D (en i) ≤ a
    · rw [if_pos (zcmp_m.mpr u), ih p (i + 1) a (by first | decide | omega) (by first | decide | omega) (by first | decide | omega) ha]
      have : zmax a (gplF g D (en i)) = a := by rw [zm, if_pos u]
      simp only [this]
    · rw [if_neg (fun q => u (zcmp_m.mp q)), ih p (i + 1) (gplF g D (en i)) (by first | decide | omega) (by first | decide | omega) (by first | decide | omega) (by first | decide | omega)]
      have : zmax a (gplF g D (en i)) = gplF g D (en i) := by rw [zm, if_neg u]
      simp only [this]
/-- a group ends behind its beginning -/
theorem to_g {z s s0 : Int} (dq : DTq g D N bg en tn tk) (hz : z ≤ N) (hs : 0 ≤ s ∧ s < z) (h0 : s0 ≤ s) (mono : ∀ i, s0 ≤ i → i + 1 < z → bg i ≤ bg (i + 1)) : gplF g D (bg s) < toG (fun i => gplF g D (bg i)) (fun i => gplF g D (en i)) s z ∧ (nxG (fun i => gplF g D (bg i)) s z < z → toG (fun i => gplF g D (bg i)) (fun i => gplF g D (en i)) s z ≤ gplF g D (bg (nxG (fun i => gplF g D (bg i)) s z))) := by
  have hN := dq.2.2.1
  obtain ⟨p1, p2, p3, p4⟩ := nxG_p (gB := fun i => gplF g D (bg i)) hs.2 (by first | decide | omega) hs.1
  have hb : ∀ i, 0 ≤ i → i < N → (0 ≤ gplF g D (en i) ∧ gplF g D (en i) ≤ 30000000000000) := fun i i0 i1 => gpl_b dq.1 dq.2.1 (dq.2.2.2.1 i i0 i1).2.2.2
  have bs := gpl_b (t := bg s) dq.1 dq.2.1 (dq.2.2.2.1 s hs.1 (by first | decide | omega)).2.2.1
  have mb := mxR_b (gE := fun i => gplF g D (en i)) (M := 40000000000000) (nxG (fun i => gplF g D (bg i)) s z - s).toNat s (gplF g D (bg s) + 1) (by first | decide | omega) (fun i i0 i1 => by have := hb i (by first | decide | omega) (by first | decide | omega); show gplF g D (en i) ≤ _; omega)
  have mon : ∀ (d : Nat) (i : Int), s0 ≤ i → i + d < z → bg i ≤ bg (i + d) := by
    intro d
    induction d with
    | zero => intro i _ _; simp
    | succ d ih =>
      intro i i0 i1
      have a := ih i i0 (by first | decide | omega)
      have b := mono (i + d) (by first | decide | omega) (by first | decide | omega)
      rw [show i + ((d + 1 : Nat) : Int) = i + d + 1 by omega]
      omega
  simp only [toG]
  by_cases c : nxG (fun i => gplF g D (bg i)) s z < z
  · have m1 := mon (nxG (fun i => gplF g D (bg i)) s z - s).toNat s h0 (by first | decide | omega)
    rw [show s + ((nxG (fun i => gplF g D (bg i)) s z - s).toNat : Int) = nxG (fun i => gplF g D (bg i)) s z by omega] at m1
    have m2 := gpl_m (g := g) (D := D) dq.1 dq.2.1 m1
    have m3 : ¬ gplF g D (bg (nxG (fun i => gplF g D (bg i)) s z)) = gplF g D (bg s) := p4 c
    rw [if_pos c]
    unfold zmin
    split <;> exact ⟨(by first | decide | omega), fun _ => (by first | decide | omega)⟩
  · rw [if_neg c]
    exact ⟨(by first | decide | omega), fun h => absurd h c⟩
end
end
end
section
section
/-! ===== the reference: a track's events whole ===== -/
section
variable {Km : Nat} {K : zK} {o f w g D N : Int} {bg en tn tk : Int → Int}
theorem M_t136 {z s0 v : Int} (h7 : 0 < K.2 7) (h1 : 0 < K.2 1) (hK : 200 ≤ K.1) (hKm : 1000 ≤ Km) (ho : 0 ≤ o ∧ o < K.2 8) (hf : -7 ≤ f ∧ f ≤ 7) (dq : DTq g D N bg en tn tk) (hz : z ≤ N) (v0 : 0 ≤ v ∧ v < 4) (mono : ∀ i, s0 ≤ i → i + 1 < z → bg i ≤ bg (i + 1)) : ∀ (fu m : Nat) (s come j : Int) (F : zF) (B : zB), z - s ≤ fu → fu < m → 0 ≤ s → s0 ≤ s → s ≤ z → 0 ≤ come → come ≤ 40000000000000 → (s < z → come ≤ gplF g D (bg s)) → 0 ≤ j → j + 2 * (z - s) ≤ 900 → MFq w D N bg en tn tk F B → F 13 w 2 = f → B 13 w 12 v = j → ∃ F' B' EL, f_M_trackEvents_136 Km m z s come v g F B = some (lsG (fun i => gplF g D (bg i)) (fun i => gplF g D (en i)) z fu s come, F', B') ∧ (∀ c y k, ¬ (c = 14 ∧ y = 0 ∧ k ≤ 1) → F' c y k = F c y k) ∧ teM w v j B B' ∧ B' 13 w 12 v = j + (EL.length : Int) ∧ GLp K o f (fun i => gplF g D (bg i)) (fun i => gplF g D (en i)) tn z fu s come EL ∧ EVL g w v B' j EL ∧ (EL.length : Int) ≤ 2 * (z - s) ∧ (0 ≤ lsG (fun i => gplF g D (bg i)) (fun i => gplF g D (en i)) z fu s come ∧ lsG (fun i => gplF g D (bg i)) (fun i => gplF g D (en i)) z fu s come ≤ 40000000000000) := by
  have hN := dq.2.2.1
  intro fu
  induction fu with
  | zero =>
    intro m s come j F B hfu hm z0 zs sz c0 c1 cl j0 jl hM m2 ej
    obtain ⟨p, rfl⟩ : ∃ p, m = p + 1 := ⟨m - 1, (by first | decide | omega)⟩
    refine ⟨F, B, [], ?_, fun _ _ _ _ => rfl, fun _ _ _ _ _ _ => rfl, by simp [ej], by rw [GLp], trivial, by simp; omega, by rw [lsG]; omega⟩
    rw [f_M_trackEvents_136, if_pos (by unfold r32; omega), if_pos (by unfold r32; omega), if_pos (by first | decide | omega), lsG]
  | succ fu ih =>
    intro m s come j F B hfu hm z0 zs sz c0 c1 cl j0 jl hM m2 ej
    obtain ⟨p, rfl⟩ : ∃ p, m = p + 1 := ⟨m - 1, (by first | decide | omega)⟩
    by_cases c : s < z
    · have hM' := hM
      obtain ⟨q1, q2, q3, q4⟩ := hM'
      have b := (q4 s z0 (by first | decide | omega)).2.2.1
      have dd := (dq.2.2.2.1 s z0 (by first | decide | omega)).2.2.1
      have gb := gpl_b (t := bg s) dq.1 dq.2.1 dd
      obtain ⟨p1, p2, p3, p4⟩ := nxG_p (gB := fun i => gplF g D (bg i)) c (by first | decide | omega) z0
      obtain ⟨tg1, tg2⟩ := to_g dq hz ⟨z0, c⟩ zs mono
      have tb := to_b dq hz ⟨z0, c⟩
      have cl' := cl c
      rw [f_M_trackEvents_136, if_pos (by unfold r32; omega), if_pos (by unfold r32; omega), if_neg (by first | decide | omega), if_pos (by first | decide | omega), b, M_gp dq hM dd, zb_s, M_t161 dq hM hz gb 400 Km s (by first | decide | omega) (by first | decide | omega) z0 (by first | decide | omega)]
      have en1 : grN (fun i => gplF g D (bg i)) z (gplF g D (bg s)) 400 s = nxG (fun i => gplF g D (bg i)) s z := rfl
      rw [en1]
      -- a rest before the group, if there is a gap
      obtain ⟨F1, B1, j1, R, r1, r2, r3, r4, r5, r6, r7⟩ : ∃ (F1 : zF) (B1 : zB) (j1 : Int) (R : List (Int × Int × Int × (Int → Int) × (Int → Int))), f_M_trackEvents_192 (f_M_trackEvents_136 Km p) Km (nxG (fun i => gplF g D (bg i)) s z) (gplF g D (bg s)) z s come v g F B = f_M_trackEvents_212 (f_M_trackEvents_136 Km p) Km (nxG (fun i => gplF g D (bg i)) s z) (gplF g D (bg s)) z s v g F1 B1 ∧ (∀ c y k, ¬ (c = 14 ∧ y = 0 ∧ k ≤ 1) → F1 c y k = F c y k) ∧ teM w v j B B1 ∧ B1 13 w 12 v = j1 ∧ j1 = j + (R.length : Int) ∧ (R = if come < gplF g D (bg s) then [(come, gplF g D (bg s), 0, (fun _ => 0), (fun _ => 0))] else []) ∧ (come < gplF g D (bg s) → EVr g w (1000 * v + j) (gplF g D (bg s) - come) 0 (fun _ => 0) (fun _ => 0) B1) := by
        unfold f_M_trackEvents_192
        rw [if_pos (by unfold r64; omega), if_pos (by unfold r64; omega)]
        by_cases y : gplF g D (bg s) ≤ come
        · rw [if_pos (zcmp_m.mpr y), if_neg (show ¬ come < gplF g D (bg s) by omega)]
          exact ⟨F, B, j, [], rfl, fun _ _ _ _ => rfl, fun _ _ _ _ _ _ => rfl, ej, by simp, rfl, fun h => (by first | decide | omega)⟩
        · obtain ⟨F1, B1, x1, x2, x3, x4, x5⟩ := M_dr (Km := Km) (w := w) (len := gplF g D (bg s) - come) (B := B) (by first | decide | omega) dq.1 q1 v0 ej (by first | decide | omega) (by first | decide | omega)
          rw [if_neg (fun q => y (zcmp_m.mp q)), x1, zb_s, if_pos (show come < gplF g D (bg s) by omega)]
          exact ⟨F1, B1, j + 1, [(come, gplF g D (bg s), 0, (fun _ => 0), (fun _ => 0))], rfl, x2, fun c i k y n n' => x3 c i k y (by first | decide | omega), x4, by simp, rfl, fun _ => x5⟩
      have Rl : (R.length : Int) ≤ 1 := by rw [r6]; split <;> simp
      have hM1 : MFq w D N bg en tn tk F1 B1 := MFq_f hM (r2 14 0 6 (by first | decide | omega)) (fun k x _ _ => r3 14 0 k x (by first | decide | omega) (by first | decide | omega))
      rw [r1]
      unfold f_M_trackEvents_212
      obtain ⟨n6, B2, y1, y2, y3⟩ := M_six (Km := Km) (s := s) (t := nxG (fun i => gplF g D (bg i)) s z) dq (by first | decide | omega) ⟨z0, (by first | decide | omega), (by first | decide | omega)⟩ hM1
      have hM2 : MFq w D N bg en tn tk F1 B2 := MFq_f hM1 rfl (fun k x _ _ => y3 14 0 k x (by first | decide | omega))
      rw [y1, zb_s, M_t232 dq hM2 hz ⟨(by first | decide | omega), p2⟩ (nxG (fun i => gplF g D (bg i)) s z - s).toNat Km s (gplF g D (bg s) + 1) (by first | decide | omega) z0 (by first | decide | omega) (by first | decide | omega)]
      have et : (if nxG (fun i => gplF g D (bg i)) s z < z then zmin (mxR (fun i => gplF g D (en i)) (nxG (fun i => gplF g D (bg i)) s z - s).toNat s (gplF g D (bg s) + 1)) (gplF g D (bg (nxG (fun i => gplF g D (bg i)) s z))) else mxR (fun i => gplF g D (en i)) (nxG (fun i => gplF g D (bg i)) s z - s).toNat s (gplF g D (bg s) + 1)) = toG (fun i => gplF g D (bg i)) (fun i => gplF g D (en i)) s z := rfl
      rw [et]
      unfold f_M_trackEvents_316
      obtain ⟨rr, F3, B3, mm, st, al, x1, x2, x3, x4, x5, x6⟩ := M_de (Km := Km) (K := K) (o := o) (f := f) (w := w) (g := g) (tn := tn) (v := v) (j := j1) (len := toG (fun i => gplF g D (bg i)) (fun i => gplF g D (en i)) s z - gplF g D (bg s)) (s := s) (t := nxG (fun i => gplF g D (bg i)) s z) (c := n6) (F := F1) (B := B2) h7 h1 hK (by first | decide | omega) dq.1 hf hM1.1 (by rw [r2 13 w 2 (by first | decide | omega)]; exact m2) v0 (by rw [y3 13 w 12 v (by first | decide | omega)]; exact r4) (by first | decide | omega) (by first | decide | omega) (fun i i0 i1 => (dq.2.2.2.1 i (by first | decide | omega) (by first | decide | omega)).2.1) ho y2
      rw [x1, zb_s]
      have hM3 : MFq w D N bg en tn tk F3 B3 := MFq_f hM2 (x2 14 0 6 (by first | decide | omega)) (fun k x _ _ => x3 14 0 k x (by first | decide | omega))
      obtain ⟨F4, B4, EL, u1, u2, u3, u4, u5, u6, u7, u8⟩ := ih p (nxG (fun i => gplF g D (bg i)) s z) (toG (fun i => gplF g D (bg i)) (fun i => gplF g D (en i)) s z) (j1 + 1) F3 B3 (by first | decide | omega) (by first | decide | omega) (by first | decide | omega) (by first | decide | omega) p2 tb.1 tb.2 tg2 (by first | decide | omega) (by first | decide | omega) hM3 (by rw [x2 13 w 2 (by first | decide | omega), r2 13 w 2 (by first | decide | omega)]; exact m2) x4
      have t3 : teM w v j B B3 := fun c i k y n n' => by rw [x3 c i k y (by first | decide | omega), y3 c i k y n', r3 c i k y n n']
      refine ⟨F4, B4, R ++ ((gplF g D (bg s), toG (fun i => gplF g D (bg i)) (fun i => gplF g D (en i)) s z, mm, st, al) :: EL), ?_, fun c y k n => by rw [u2 c y k n, x2 c y k n, r2 c y k n], teM_t t3 u3 (by first | decide | omega), ?_, ?_, ?_, ?_, ?_⟩
      · rw [lsG, if_pos c]; exact u1
      · rw [u4, List.length_append, List.length_cons]; omega
      · rw [GLp, if_pos c]
        exact ⟨mm, st, al, EL, by rw [r6], x6, u5⟩
      · have big : EVr g w (1000 * v + j1) (toG (fun i => gplF g D (bg i)) (fun i => gplF g D (en i)) s z - gplF g D (bg s)) mm st al B4 := EVr_f x5 (fun k hk => u3 13 w k _ (by first | decide | omega) (by first | decide | omega)) (fun k y hk a b => u3 13 w k y (by first | decide | omega) (by first | decide | omega))
        by_cases y : come < gplF g D (bg s)
        · rw [if_pos y] at r6
          subst r6
          have j1e : j1 = j + 1 := by rw [r5]; simp
          refine ⟨?_, by rw [← j1e]; exact ⟨big, u6⟩⟩
          refine EVr_f (r7 y) (fun k hk => ?_) (fun k y' hk a b => ?_)
          · rw [u3 13 w k _ (by first | decide | omega) (by first | decide | omega), x3 13 w k _ (by first | decide | omega), y3 13 w k _ (by first | decide | omega)]
          · rw [u3 13 w k _ (by first | decide | omega) (by first | decide | omega), x3 13 w k _ (by first | decide | omega), y3 13 w k _ (by first | decide | omega)]
        · rw [if_neg y] at r6
          subst r6
          have j1e : j1 = j := by rw [r5]; simp
          rw [← j1e]
          exact ⟨big, u6⟩
      · rw [List.length_append, List.length_cons]; omega
      · rw [lsG, if_pos c]; exact u8
    · refine ⟨F, B, [], ?_, fun _ _ _ _ => rfl, fun _ _ _ _ _ _ => rfl, by simp [ej], by rw [GLp, if_neg c], trivial, by simp; omega, by rw [lsG, if_neg c]; omega⟩
      rw [f_M_trackEvents_136, if_pos (by unfold r32; omega), if_pos (by unfold r32; omega), if_pos (by first | decide | omega), lsG, if_neg c]
end
end
end
