section
/-! ===== the chunks of a file, both sides ===== -/
theorem C_skp2 {K : zK} {o a n L : Int} {F : zF} {B : zB} (ho : 0 ≤ o ∧ o < K.2 8) (n0 : 0 ≤ n ∧ n ≤ 17179869184) (a1 : F 8 o 5 = a) (a0 : 0 ≤ a ∧ a ≤ 3000) (g7 : F 8 o 7 = 0) (l1 : F 8 o 6 = L) (l0 : 0 ≤ L ∧ L ≤ 3000) : f_SoundFile_skip K o n F B = some (0, if a + n ≤ L then zup3 F 8 o 5 (a + n) else zup3 F 8 o 7 (2 + 16 * L), B) := by
  unfold f_SoundFile_skip f_SoundFile_skip_46
  rw [if_pos ho, a1, l1, if_pos (show r32 a by unfold r32; omega), if_pos (show r32 L by unfold r32; omega), if_pos (show r64 (a + n) by unfold r64; omega), if_pos (show r64 L by unfold r64; omega), g7, if_pos (show r32 0 by decide), if_pos (show (0 : Int) = 0 from rfl)]
  by_cases z : a + n ≤ L
  · rw [if_pos (zcmp_m.mpr z), if_pos z]
  · rw [if_neg (fun x => z (zcmp_m.mp x)), if_neg z, C_ref ho g7, zb_s]
section
variable {K : zK} {Km : Nat} {o : Int} {q : zF × zB × zF × zB}
/-- behind a fault nothing more is read -/
theorem P_fx {m1 m2 : Nat} {n l1 tr to : Int} {F : zF} {B : zB} {Fm : zF} {Bm : zB} (h0 : 2 ≤ K.2 0) (ho : 0 ≤ o ∧ o < K.2 8) (tq : TQ q) (hn : 0 ≤ n ∧ n < 2000) (ht : -8589934592 ≤ to ∧ to ≤ 8589934592) (hl : -8589934592 ≤ l1 ∧ l1 ≤ 8589934592) (w : OW o q F B Fm Bm) (x : RX o F Fm) (x6 : F 8 o 6 ≤ F 0 0 1) : zP (f_SoundFile_load_143 (f_SoundFile_load_43 K (m1 + 1)) K to n o 0 F B) (f_M_open_176 (f_M_open_81 Km (m2 + 1)) Km l1 tr Fm Bm) (QL o q) := by
  have n3 := (RO_w tq w).2.1
  have x7 := x7_n x
  have xx := x
  obtain ⟨y7, y17, y18, y5, y6, y6'⟩ := xx
  have xw : RX o (zup3 F 8 o 6 (F 0 0 1)) Fm := by
    unfold RX
    simp only [zup3_v]
    simp
    omega
  have ww : OW o q (zup3 F 8 o 6 (F 0 0 1)) B Fm Bm := OW_x w (by rw [zup3_v, if_neg (by first | decide | omega)]) (fun c y k n => by rw [zup3_v, if_neg (by first | decide | omega)]) (fun _ _ _ _ _ => rfl) (fun _ _ _ _ => rfl) (fun _ _ _ _ _ => rfl)
  have e1 : f_SoundFile_load_143 (f_SoundFile_load_43 K (m1 + 1)) K to n o 0 F B = f_SoundFile_load_169 K o (zup3 F 8 o 6 (F 0 0 1)) B := by
    unfold f_SoundFile_load_143
    have x7' := x7_n xw
    rw [if_pos (by first | decide | omega), if_pos ho, if_pos (show r32 (F 8 o 5) by unfold r32; omega), C_skipX ho (by first | decide | omega) xw, zb_s, f_SoundFile_load_43, if_pos (show r32 (n + 1) by unfold r32; omega), if_neg (by first | decide | omega), if_pos ho, if_pos x7'.1, if_neg x7'.2]
  have e2 : f_M_open_176 (f_M_open_81 Km (m2 + 1)) Km l1 tr Fm Bm = f_M_open_198 Km Fm Bm := by
    have e3 : f_M_open_81 Km (m2 + 1) tr l1 Fm Bm = f_M_open_198 Km Fm Bm := by
      rw [f_M_open_81, L_goodX x, zb_s, if_pos (show r32 0 by decide), if_pos (show (0 : Int) = 0 from rfl)]
    unfold f_M_open_176 f_M_open_195
    rw [if_pos (show r32 (Fm 14 0 3) by unfold r32; omega), if_pos (show r64 l1 by unfold r64; omega), if_pos (show r64 (Fm 14 0 3) by unfold r64; omega), e3]
    have ef : f_M_failByte Km 2 (Fm 14 0 3) Fm Bm = some (0, Fm, Bm) := by
      unfold f_M_failByte
      rw [if_pos (show r32 (Fm 14 0 17) by unfold r32; omega), if_neg (by first | decide | omega)]
    rw [ef, zb_s, e3]
    by_cases z : zcmp l1 (Fm 14 0 3) ≤ 0
    · rw [if_pos z]
    · rw [if_neg z]
  rw [e1, e2]
  exact P_okX ho ww xw
/-- between chunks, all well -/
def LK (o : Int) (q : zF × zB × zF × zB) (tr l : Int) (F : zF) (B : zB) (Fm : zF) (Bm : zB) : Prop := OW o q F B Fm Bm ∧ DB o tr F B Fm Bm ∧ (F 8 o 7 = 0 ∧ Fm 14 0 17 = 0 ∧ F 8 o 5 = l ∧ 0 ≤ l ∧ l ≤ F 0 0 1) ∧ (F 8 o 8 = tr ∧ 0 ≤ tr ∧ tr ≤ Bm 14 0 74 0)
/-- the chunk at hand has been looked at -/
theorem P_nx {m1 m2 : Nat} {n l tr a b : Int} {F : zF} {B : zB} {Fm : zF} {Bm : zB} (h0 : 2 ≤ K.2 0) (ho : 0 ≤ o ∧ o < K.2 8) (tq : TQ q) (hn : 0 ≤ n ∧ n < 2000) (w : OW o q F B Fm Bm) (db : DB o tr F B Fm Bm) (g : F 8 o 7 = 0 ∧ Fm 14 0 17 = 0 ∧ F 8 o 5 = a ∧ 0 ≤ a ∧ a ≤ 3000) (g8 : F 8 o 8 = tr ∧ 0 ≤ tr ∧ tr ≤ Bm 14 0 74 0) (ha : a ≤ l ∧ l ≤ 8589934592) (h89 : Fm 14 0 89 = b ∧ 0 ≤ b ∧ b ≤ 3000) (ih : ∀ F B Fm Bm, LK o q tr l F B Fm Bm → zP (f_SoundFile_load_43 K (m1 + 1) (n + 1) o 0 F B) (f_M_open_81 Km (m2 + 1) tr l Fm Bm) (QL o q)) : zP (f_SoundFile_load_143 (f_SoundFile_load_43 K (m1 + 1)) K l n o 0 F B) (f_M_open_176 (f_M_open_81 Km (m2 + 1)) Km l tr Fm Bm) (QL o q) := by
  have n3 := (RO_w tq w).2.1
  obtain ⟨g7, g17, g5, a0⟩ := g
  have f6 : ∀ k, k ≠ 6 → (zup3 F 8 o 6 (F 0 0 1)) 8 o k = F 8 o k := fun k n => by rw [zup3_v, if_neg (by first | decide | omega)]
  have v6 : (zup3 F 8 o 6 (F 0 0 1)) 8 o 6 = F 0 0 1 := by rw [zup3_v, if_pos (by first | decide | omega)]
  have f01 : (zup3 F 8 o 6 (F 0 0 1)) 0 0 1 = F 0 0 1 := by rw [zup3_v, if_neg (by first | decide | omega)]
  unfold f_SoundFile_load_143 f_M_open_176 f_M_open_195
  rw [if_pos (by first | decide | omega), if_pos ho, g5, if_pos (show r32 a by unfold r32; omega), C_skp2 (a := a) (L := F 0 0 1) ho (by first | decide | omega) (by rw [f6 5 (by decide)]; exact g5) a0 (by rw [f6 7 (by decide)]; exact g7) v6 (by first | decide | omega), zb_s, show a + (l - a) = l by omega, if_pos (show r32 (Fm 14 0 3) by unfold r32; omega), if_pos (show r64 l by unfold r64; omega), if_pos (show r64 (Fm 14 0 3) by unfold r64; omega)]
  by_cases z : l ≤ F 0 0 1
  · rw [if_pos z, if_pos (zcmp_m.mpr (by first | decide | omega))]
    have fa : ∀ k, k ≠ 6 → k ≠ 5 → (zup3 (zup3 F 8 o 6 (F 0 0 1)) 8 o 5 l) 8 o k = F 8 o k := fun k n n' => by rw [zup3_v, if_neg (by first | decide | omega), f6 k n]
    refine ih _ _ _ _ ⟨?_, ⟨?_, db.2.1, ?_⟩, ⟨by rw [fa 7 (by decide) (by decide)]; exact g7, g17, by rw [zup3_v, if_pos (by first | decide | omega)], (by first | decide | omega), by rw [zup3_v, if_neg (by first | decide | omega), f01]; exact z⟩, by rw [fa 8 (by decide) (by decide)]; exact g8⟩
    · exact OW_x w (by rw [fa 4 (by decide) (by decide)]) (fun c y k n => by rw [zup3_v, if_neg (by first | decide | omega), zup3_v, if_neg (by first | decide | omega)]) (fun _ _ _ _ _ => rfl) (fun _ _ _ _ => rfl) (fun _ _ _ _ _ => rfl)
    · rw [fa 2 (by decide) (by decide)]
      exact SND_f db.1 (by first | decide | omega) (fa 2 (by decide) (by decide)) rfl (fun _ _ _ _ => rfl) (fun _ _ _ _ => rfl)
    · exact HD_x db.2.2 (fun k k0 k1 => fa k (by first | decide | omega) (by first | decide | omega)) (fun _ => rfl) (fun _ _ _ => rfl) (fun _ => rfl)
  · rw [if_neg z, if_neg (fun x => by have := zcmp_m.mp x; omega), L_fb g17, zb_s]
    have fa : ∀ k, k ≠ 6 → k ≠ 7 → (zup3 (zup3 F 8 o 6 (F 0 0 1)) 8 o 7 (2 + 16 * F 0 0 1)) 8 o k = F 8 o k := fun k n n' => by rw [zup3_v, if_neg (by first | decide | omega), f6 k n]
    have x : RX o (zup3 (zup3 F 8 o 6 (F 0 0 1)) 8 o 7 (2 + 16 * F 0 0 1)) (zup3 (zup3 Fm 14 0 17 2) 14 0 18 (Fm 14 0 3)) := by
      unfold RX
      simp only [zup3_v]
      simp
      omega
    have ww : OW o q (zup3 (zup3 F 8 o 6 (F 0 0 1)) 8 o 7 (2 + 16 * F 0 0 1)) B (zup3 (zup3 Fm 14 0 17 2) 14 0 18 (Fm 14 0 3)) Bm := OW_x w (by rw [fa 4 (by decide) (by decide)]) (fun c y k n => by rw [zup3_v, if_neg (by first | decide | omega), zup3_v, if_neg (by first | decide | omega)]) (fun _ _ _ _ _ => rfl) (fun c y k n => by rw [zup3_v, if_neg (by first | decide | omega), zup3_v, if_neg (by first | decide | omega)]) (fun _ _ _ _ _ => rfl)
    have x7 := x7_n x
    rw [f_SoundFile_load_43, if_pos (show r32 (n + 1) by unfold r32; omega), if_neg (by first | decide | omega), if_pos ho, if_pos x7.1, if_neg x7.2, f_M_open_81, L_goodX x, zb_s, if_pos (show r32 0 by decide), if_pos (show (0 : Int) = 0 from rfl)]
    exact P_okX ho ww x
theorem P_w4 {a : Int} {F : zF} {B : zB} {Fm : zF} {Bm : zB} (h0 : 2 ≤ K.2 0) (ho : 0 ≤ o ∧ o < K.2 8) (hK : 10 ≤ K.1) (hKm : 10 ≤ Km) (hO : RO o F B Fm Bm) (hQ : RQo o a F Fm) : zP (f_SoundFile_takeWide K o 4 F B) (f_M_whole Km 4 Fm Bm) (fun r F' B' r' Fm' Bm' => B' = B ∧ Bm' = Bm ∧ tkF o F F' ∧ tkG Fm Fm' ∧ (0 ≤ r ∧ r ≤ 4294967295) ∧ (0 ≤ r' ∧ r' ≤ 4294967295) ∧ RQo o (a + 4) F' Fm' ∧ (Fm' 14 0 17 = 0 → Fm 14 0 17 = 0 ∧ r' = r)) := by
  have b4 : bwn (0 + 4) = 4294967295 := by decide
  obtain ⟨r, F', B', r', Fm', Bm', e1, e2, w1, w2, w3, w4, w5, w6, w7, w8⟩ := P_wide (Km := Km) (o := o) (l := 4) h0 ho 4 0 K.1 Km a 0 0 F B Fm Bm (by first | decide | omega) (by first | decide | omega) (by first | decide | omega) (by first | decide | omega) (by decide) (by decide) (fun _ => rfl) hO hQ
  rw [b4] at w5 w6
  exact ⟨r, F', B', r', Fm', Bm', e1, e2, w1, w2, w3, w4, w5, w6, w7, w8⟩
theorem P_ll (h0 : 2 ≤ K.2 0) (ho : 0 ≤ o ∧ o < K.2 8) (hK : 4000 ≤ K.1) (hKm : 4000 ≤ Km) (tq : TQ q) : ∀ (d m1 m2 : Nat) (n tr l : Int) (F : zF) (B : zB) (Fm : zF) (Bm : zB), 3008 ≤ l + d → d < m1 → d < m2 → 0 ≤ n → 8 * n ≤ l → LK o q tr l F B Fm Bm → zP (f_SoundFile_load_43 K m1 n o 0 F B) (f_M_open_81 Km m2 tr l Fm Bm) (QL o q) := by
  intro d
  induction d with
  | zero =>
    intro m1 m2 n tr l F B Fm Bm hd l1 l2 n0 nl h
    have n3 := (RO_w tq h.1).2.1
    have := h.2.2.1
    omega
  | succ d ih =>
    intro m1 m2 n tr l F B Fm Bm hd l1 l2 n0 nl h
    obtain ⟨w, db, ⟨g7, g17, g5, l0, ls⟩, ⟨g8, t0, t1⟩⟩ := h
    have n3 := (RO_w tq w).2.1
    have hh := db.2.2
    unfold HD at hh
    have b0 : B 8 o 0 0 = Bm 14 0 74 0 ∧ 1 ≤ Bm 14 0 74 0 ∧ Bm 14 0 74 0 ≤ 8 := by omega
    obtain ⟨p, rfl⟩ : ∃ p, m1 = p + 1 := ⟨m1 - 1, (by first | decide | omega)⟩
    obtain ⟨r, rfl⟩ : ∃ p, m2 = p + 1 := ⟨m2 - 1, (by first | decide | omega)⟩
    rw [f_SoundFile_load_43, if_pos (show r32 n by unfold r32; omega), if_neg (show ¬ 3000 ≤ n by omega), if_pos ho, g7, if_pos (show r32 0 by decide), if_pos (show (0 : Int) = 0 from rfl), g8, if_pos (show r32 tr by unfold r32; omega), b0.1, if_pos (show r32 (Bm 14 0 74 0) by unfold r32; omega), f_M_open_81, L_good g17, zb_s, if_pos (show r32 1 by decide), if_neg (show ¬ (1 : Int) = 0 by decide), if_pos (show r32 tr by unfold r32; omega), if_pos (show r32 (Bm 14 0 74 0) by unfold r32; omega)]
    by_cases z : Bm 14 0 74 0 ≤ tr
    · rw [if_pos z, if_pos z]
      exact P_okE ho (by first | decide | omega) w db g7 g17 (by first | decide | omega)
    · rw [if_neg z, if_neg z, if_pos (show (0 : Int) ≤ 0 ∧ (0 : Int) < K.2 0 by omega), if_pos (show r32 (Fm 14 0 3) by unfold r32; omega), if_pos (show r64 l by unfold r64; omega), if_pos (show r64 (Fm 14 0 3) by unfold r64; omega)]
      have es : (if 0 ≤ zcmp l (Fm 14 0 3) then f_M_open_118 (f_M_open_81 Km r) Km tr (Fm 14 0 3) Fm Bm else f_M_open_118 (f_M_open_81 Km r) Km tr l Fm Bm) = f_M_open_118 (f_M_open_81 Km r) Km tr l Fm Bm := by
        by_cases v : Fm 14 0 3 ≤ l
        · rw [if_pos (zcmp_o.mpr v), show Fm 14 0 3 = l by omega]
        · rw [if_neg (fun x => v (zcmp_o.mp x))]
      rw [es]
      unfold f_M_open_118 f_M_isTrack
      rw [if_pos (show r32 l by unfold r32; omega), zb_a2]
      have f6 : ∀ k, k ≠ 6 → (zup3 F 8 o 6 (F 0 0 1)) 8 o k = F 8 o k := fun k n => by rw [zup3_v, if_neg (by first | decide | omega)]
      have v6 : (zup3 F 8 o 6 (F 0 0 1)) 8 o 6 = F 0 0 1 := by rw [zup3_v, if_pos (by first | decide | omega)]
      have w1 : OW o q (zup3 F 8 o 6 (F 0 0 1)) B (zup3 (zup3 Fm 14 0 89 l) 14 0 90 3000) Bm := OW_x w (f6 4 (by decide)) (fun c y k n => by rw [zup3_v, if_neg (by first | decide | omega)]) (fun _ _ _ _ _ => rfl) (fun c y k n => by rw [zup3_v, if_neg (by first | decide | omega), zup3_v, if_neg (by first | decide | omega)]) (fun _ _ _ _ _ => rfl)
      have g1 : RG o l (zup3 F 8 o 6 (F 0 0 1)) (zup3 (zup3 Fm 14 0 89 l) 14 0 90 3000) := by
        unfold RG
        simp only [zup3_v]
        simp
        omega
      refine P_bind (P_w4 (Km := Km) h0 ho (by first | decide | omega) (by first | decide | omega) (RO_w tq w1) (Or.inl ⟨g1, by rw [v6]; omega⟩)) (fun s F2 B2 s' G2 D2 y => ?_)
      obtain ⟨rfl, rfl, y3, y4, y5, y6, y7, y8⟩ := y
      have w2 := OW_t w1 y3 y4
      rw [L_code (by first | decide | omega), zb_s, if_pos (show r64 s' by unfold r64; omega), if_pos (show r64 1297379947 by decide)]
      unfold f_M_isTrack_22
      rw [if_pos (show (1 : Int) = 0 ∨ (1 : Int) = 1 from Or.inr rfl), if_pos (show (0 : Int) = 0 ∨ (0 : Int) = 1 from Or.inl rfl)]
      have eb : (zbind (if zcmp s' 1297379947 = 0 then some (1, G2, D2) else some (0, G2, D2)) (fun r27 F27 B27 => zbind (f_M_whole Km 4 F27 B27) (fun r28 F28 B28 => if r32 (F28 14 0 89) then zbind (f_M_good Km F28 B28) (fun r30 F30 B30 => if r32 r30 then (if r30 = 0 then f_M_open_176 (f_M_open_81 Km r) Km ((F28 14 0 89) + r28) tr F30 B30 else if r32 r27 then (if r27 = 0 then f_M_open_176 (f_M_open_81 Km r) Km ((F28 14 0 89) + r28) tr F30 B30 else zbind (f_M_track0 Km tr (zup3 F30 14 0 90 ((F28 14 0 89) + r28)) B30) (fun r37 F37 B37 => f_M_open_176 (f_M_open_81 Km r) Km ((F28 14 0 89) + r28) (tr + 1) F37 B37)) else none) else none) else none))) = (zbind (f_M_whole Km 4 G2 D2) (fun r28 F28 B28 => if r32 (F28 14 0 89) then zbind (f_M_good Km F28 B28) (fun r30 F30 B30 => if r32 r30 then (if r30 = 0 then f_M_open_176 (f_M_open_81 Km r) Km ((F28 14 0 89) + r28) tr F30 B30 else (if ¬ s' = 1297379947 then f_M_open_176 (f_M_open_81 Km r) Km ((F28 14 0 89) + r28) tr F30 B30 else zbind (f_M_track0 Km tr (zup3 F30 14 0 90 ((F28 14 0 89) + r28)) B30) (fun r37 F37 B37 => f_M_open_176 (f_M_open_81 Km r) Km ((F28 14 0 89) + r28) (tr + 1) F37 B37))) else none) else none)) := by
        by_cases v : s' = 1297379947
        · rw [if_pos (zcmp_0.mpr v), zb_s]
          simp only [if_pos (show r32 1 by decide), if_neg (show ¬ (1 : Int) = 0 by decide), if_neg (show ¬ ¬ s' = 1297379947 from fun h => h v)]
        · rw [if_neg (fun x => v (zcmp_0.mp x)), zb_s]
          simp only [if_pos (show r32 0 by decide), if_pos (show ¬ s' = 1297379947 from v), ↓reduceIte]
      rw [eb]
      refine P_bind (P_w4 (Km := Km) h0 ho (by first | decide | omega) (by first | decide | omega) (RO_w tq w2) y7) (fun u F3 B3 u' G3 D3 y => ?_)
      obtain ⟨rfl, rfl, z3, z4, z5, z6, z7, z8⟩ := y
      have w3 := OW_t w2 z3 z4
      have f3 := tkF_t y3 z3
      have g3 := tkG_t y4 z4
      have e01 : F3 0 0 1 = F 0 0 1 := by rw [f3 0 0 1 (by first | decide | omega), zup3_v, if_neg (by first | decide | omega)]
      obtain ⟨p', rfl⟩ : ∃ x, p = x + 1 := ⟨p - 1, (by first | decide | omega)⟩
      obtain ⟨r', rfl⟩ : ∃ x, r = x + 1 := ⟨r - 1, (by first | decide | omega)⟩
      rcases z7 with ⟨g, g6⟩ | ⟨x, x6⟩
      · obtain ⟨m2', rfl⟩ := z8 g.2.1
        obtain ⟨_, rfl⟩ := y8 m2'
        have ga := g.2.2.1
        have fk : ∀ k, k ≠ 5 → k ≠ 6 → k ≠ 7 → F3 8 o k = F 8 o k := fun k a b c => by rw [f3 8 o k (by first | decide | omega), f6 k b]
        have gk : ∀ k, ¬ (k = 17 ∨ k = 18 ∨ k = 89 ∨ k = 90) → G3 14 0 k = Fm 14 0 k := fun k n => by rw [g3 14 0 k (by first | decide | omega), zup3_v, if_neg (by first | decide | omega), zup3_v, if_neg (by first | decide | omega)]
        have sn3 : SND o (F 8 o 2) tr 0 F3 B3 G3 D3 := SND_f db.1 (by first | decide | omega) (fk 2 (by decide) (by decide) (by decide)) (gk 94 (by decide)) (fun _ _ _ _ => rfl) (fun _ _ _ _ => rfl)
        have hd3 : HD o F3 B3 G3 D3 := HD_x db.2.2 (fun k k0 k1 => fk k (by first | decide | omega) (by first | decide | omega) (by first | decide | omega)) (fun _ => rfl) (fun k k0 k1 => gk k (by first | decide | omega)) (fun _ => rfl)
        have db3 : DB o tr F3 B3 G3 D3 := ⟨by rw [fk 2 (by decide) (by decide) (by decide)]; exact sn3, db.2.1, hd3⟩
        rw [ga.1, ga.2.1, if_pos (show r32 (l + 4 + 4) by unfold r32; omega), g.1, if_pos (show r32 0 by decide), if_pos (show (0 : Int) = 0 from rfl), if_pos (show r64 s' by unfold r64; omega), if_pos (show r32 (l + 4 + 4) by unfold r32; omega), L_good g.2.1, zb_s, if_pos (show r32 1 by decide), if_neg (show ¬ (1 : Int) = 0 by decide), show u' + (l + 4 + 4) = l + 4 + 4 + u' by omega]
        have F38 : F3 8 o 8 = tr := by rw [fk 8 (by decide) (by decide) (by decide)]; exact g8
        by_cases v : s' = 1297379947
        · rw [if_pos (zcmp_0.mpr v), if_neg (show ¬ ¬ s' = 1297379947 from fun h => h v), e01, if_pos (show r32 (F 0 0 1) by unfold r32; omega), if_pos (show r64 (l + 4 + 4 + u') by unfold r64; omega), if_pos (show r64 (F 0 0 1) by unfold r64; omega)]
          have s1 := db3.1.1
          have zm : zmin (l + 4 + 4 + u') (F 0 0 1) ≤ l + 4 + 4 + u' ∧ zmin (l + 4 + 4 + u') (F 0 0 1) ≤ F 0 0 1 ∧ (zmin (l + 4 + 4 + u') (F 0 0 1) = l + 4 + 4 + u' ∨ zmin (l + 4 + 4 + u') (F 0 0 1) = F 0 0 1) := by unfold zmin; split <;> omega
          have g3' := gk 3 (by decide)
          have gle := g.2.2.2.2
          have gt : RG o (l + 4 + 4) (zup3 F3 8 o 6 (zmin (l + 4 + 4 + u') (F 0 0 1))) (zup3 G3 14 0 90 (l + 4 + 4 + u')) := by
            have q7 := g.1
            have q17 := g.2.1
            unfold RG
            simp only [zup3_v]
            simp
            omega
          have wt : OW o q (zup3 F3 8 o 6 (zmin (l + 4 + 4 + u') (F 0 0 1))) B3 (zup3 G3 14 0 90 (l + 4 + 4 + u')) D3 := OW_x w3 (by rw [zup3_v, if_neg (by first | decide | omega)]) (fun c y k n => by rw [zup3_v, if_neg (by first | decide | omega)]) (fun _ _ _ _ _ => rfl) (fun c y k n => by rw [zup3_v, if_neg (by first | decide | omega)]) (fun _ _ _ _ _ => rfl)
          have h6 : 0 ≤ (zup3 F3 8 o 6 (zmin (l + 4 + 4 + u') (F 0 0 1))) 8 o 6 := by rw [zup3_v, if_pos (by first | decide | omega)]; omega
          have dbt : DB o tr (zup3 F3 8 o 6 (zmin (l + 4 + 4 + u') (F 0 0 1))) B3 (zup3 G3 14 0 90 (l + 4 + 4 + u')) D3 := ⟨by rw [zup3_v, if_neg (by first | decide | omega)]; exact SND_f db3.1 (by first | decide | omega) (by rw [zup3_v, if_neg (by first | decide | omega)]) (by rw [zup3_v, if_neg (by first | decide | omega)]) (fun _ _ _ _ => rfl) (fun _ _ _ _ => rfl), db.2.1, HD_x hd3 (fun k k0 k1 => by rw [zup3_v, if_neg (by first | decide | omega)]) (fun _ => rfl) (fun k k0 k1 => by rw [zup3_v, if_neg (by first | decide | omega)]) (fun _ => rfl)⟩
          refine P_bind (P_track (Km := Km) h0 ho hK hKm (by first | decide | omega) (by first | decide | omega) tq wt dbt gt h6 (by rw [zup3_v, if_pos (by first | decide | omega)]) (by rw [zup3_v, if_neg (by first | decide | omega)]; exact F38)) (fun c F4 B4 c' G4 D4 y => ?_)
          obtain ⟨w4, y⟩ := y
          rcases y with ⟨a4, g4, g46, e90, e84, db4⟩ | ⟨x4, x46⟩
          · have ga4 := g4.2.2.1
            have gl4 := g4.2.2.2.2
            have hh4 := db4.2.2
            unfold HD at hh4
            have s14 := db4.1.1
            rw [e84]
            have k8 : ∀ k, k ≠ 8 → (zup3 F4 8 o 8 (tr + 1)) 8 o k = F4 8 o k := fun k n => by rw [zup3_v, if_neg (by first | decide | omega)]
            have w5 : OW o q (zup3 F4 8 o 8 (tr + 1)) B4 G4 D4 := OW_x w4 (k8 4 (by decide)) (fun c y k n => by rw [zup3_v, if_neg (by first | decide | omega)]) (fun _ _ _ _ _ => rfl) (fun _ _ _ _ => rfl) (fun _ _ _ _ _ => rfl)
            have db5 : DB o (tr + 1) (zup3 F4 8 o 8 (tr + 1)) B4 G4 D4 := ⟨by rw [k8 2 (by decide)]; exact SND_f db4.1 (by first | decide | omega) (k8 2 (by decide)) rfl (fun _ _ _ _ => rfl) (fun _ _ _ _ => rfl), db4.2.1, HD_x db4.2.2 (fun k k0 k1 => k8 k (by first | decide | omega)) (fun _ => rfl) (fun _ _ _ => rfl) (fun _ => rfl)⟩
            have m74 : tr + 1 ≤ D4 14 0 74 0 := by
              have a1 := w4.2.2.2.2 14 0 74 0 (by first | decide | omega)
              have a2 := w.2.2.2.2 14 0 74 0 (by first | decide | omega)
              omega
            exact P_nx (a := a4) (b := a4) h0 ho tq (by first | decide | omega) w5 db5 ⟨by rw [k8 7 (by decide)]; exact g4.1, g4.2.1, by rw [k8 5 (by decide)]; exact ga4.1, ga4.2.2.1, ga4.2.2.2⟩ ⟨by rw [zup3_v, if_pos (by first | decide | omega)], (by first | decide | omega), m74⟩ (by first | decide | omega) ⟨ga4.2.1, ga4.2.2⟩ (fun F B Fm Bm hk => ih (p' + 1) (r' + 1) (n + 1) (tr + 1) (l + 4 + 4 + u') F B Fm Bm (by first | decide | omega) (by first | decide | omega) (by first | decide | omega) (by first | decide | omega) (by first | decide | omega) hk)
          · have k8 : ∀ k, k ≠ 8 → (zup3 F4 8 o 8 (F4 8 o 8 + 1)) 8 o k = F4 8 o k := fun k n => by rw [zup3_v, if_neg (by first | decide | omega)]
            exact P_fx h0 ho tq (by first | decide | omega) (by first | decide | omega) (by first | decide | omega) (OW_x w4 (k8 4 (by decide)) (fun c y k n => by rw [zup3_v, if_neg (by first | decide | omega)]) (fun _ _ _ _ _ => rfl) (fun _ _ _ _ => rfl) (fun _ _ _ _ _ => rfl)) (RX_f x4 (k8 5 (by decide)) (k8 6 (by decide)) (k8 7 (by decide)) rfl rfl rfl) (by rw [k8 6 (by decide), zup3_v, if_neg (by first | decide | omega)]; exact x46)
        · rw [if_neg (fun x => v (zcmp_0.mp x)), if_pos v]
          exact P_nx (a := l + 4 + 4) (b := l + 4 + 4) h0 ho tq (by first | decide | omega) w3 db3 ⟨g.1, g.2.1, ga.1, ga.2.2.1, ga.2.2.2⟩ ⟨F38, t0, t1⟩ (by first | decide | omega) ⟨ga.2.1, ga.2.2⟩ (fun F B Fm Bm hk => ih (p' + 1) (r' + 1) (n + 1) tr (l + 4 + 4 + u') F B Fm Bm (by first | decide | omega) (by first | decide | omega) (by first | decide | omega) (by first | decide | omega) (by first | decide | omega) hk)
      · have x7 := x7_n x
        have xx := x
        obtain ⟨_, _, _, q5, _, _, q89⟩ := xx
        rw [if_pos (show r32 (F3 8 o 5) by unfold r32; omega), if_pos x7.1, if_neg x7.2, if_pos (show r32 (G3 14 0 89) by unfold r32; omega), L_goodX x, zb_s, if_pos (show r32 0 by decide), if_pos (show (0 : Int) = 0 from rfl)]
        exact P_fx h0 ho tq (by first | decide | omega) (by first | decide | omega) (by first | decide | omega) w3 x x6
end
end
