section
/-! ===== the heads of the text; room ===== -/
def hdT (f mi n d te : Int) : List Int := [107, 101, 121, 32] ++ ((if f < 0 then [45] else []) ++ (decT (if 0 ≤ f then f else -f) ++ ((if mi = 1 then [32, 109, 105, 110, 111, 114] else [32, 109, 97, 106, 111, 114]) ++ ([10, 116, 105, 109, 101, 32] ++ (decT n ++ ([47] ++ (decT d ++ ([10, 116, 101, 109, 112, 111, 32] ++ (decT te ++ [10])))))))))
theorem hdT_l {f mi n d te : Int} : (hdT f mi n d te).length ≤ 60 := by
  unfold hdT
  have a1 := if_l (c := f < 0) (x := 45)
  have a2 := decT_l (v := if 0 ≤ f then f else -f)
  have a3 := decT_l (v := n)
  have a4 := decT_l (v := d)
  have a5 := decT_l (v := te)
  have a6 : ((if mi = 1 then [32, 109, 105, 110, 111, 114] else [32, 109, 97, 106, 111, 114]) : List Int).length = 6 := by split <;> rfl
  simp only [List.length_append, List.length_cons, List.length_nil]
  omega
theorem C_head {K : zK} {o f mi n d te : Int} {T : List Int} {F : zF} {B : zB} (k0 : 2 ≤ K.2 0) (k7 : 0 < K.2 7) (hK : 200 ≤ K.1) (hf : -7 ≤ f ∧ f ≤ 7) (hn : 0 ≤ n ∧ n < 1000) (hd : 0 ≤ d ∧ d < 1000) (hte : 0 ≤ te ∧ te < 1000) (hmi : mi = 0 ∨ mi = 1) (h0 : F 7 0 0 = o ∧ 0 ≤ o ∧ o < K.2 8) (h1 : F 7 0 1 = 1) (b2 : B 8 o 0 2 = f) (b3 : B 8 o 0 3 = mi) (b4 : B 8 o 0 4 = n) (b5 : B 8 o 0 5 = d) (b6 : B 8 o 0 6 = te) (w : TC (F, B) T F B) : ∃ F' B', f_Scribe_writeHead K 0 F B = some (0, F', B') ∧ TC (F, B) (T ++ hdT f mi n d te) F' B' := by
  have za : zabs f = (if 0 ≤ f then f else -f) := rfl
  have zr : 0 ≤ (if 0 ≤ f then f else -f) ∧ (if 0 ≤ f then f else -f) < 1000 := by split <;> omega
  obtain ⟨F1, B1, e1, w1⟩ : ∃ F1 B1, f_ByteRow_putText K 1 (if 0 ≤ f then 4 else 3) F B = some (0, F1, B1) ∧ TC (F, B) (T ++ ([107, 101, 121, 32] ++ (if f < 0 then [45] else []))) F1 B1 := by
    by_cases z : 0 ≤ f
    · rw [if_pos z, if_neg (by first | decide | omega)]
      exact C_strg k0 hK (by decide) (by decide) (by decide) (by decide) w
    · rw [if_neg z, if_pos (by first | decide | omega)]
      exact C_strg k0 hK (by decide) (by decide) (by decide) (by decide) w
  obtain ⟨F2, B2, e2, w2⟩ := C_dec (v := if 0 ≤ f then f else -f) k0 hK zr w1
  obtain ⟨F3, B3, e3, w3⟩ : ∃ F3 B3, f_ByteRow_putText K 1 (if mi = 1 then 5 else 6) F2 B2 = some (0, F3, B3) ∧ TC (F, B) (T ++ ([107, 101, 121, 32] ++ (if f < 0 then [45] else [])) ++ decT (if 0 ≤ f then f else -f) ++ ((if mi = 1 then [32, 109, 105, 110, 111, 114] else [32, 109, 97, 106, 111, 114]) ++ [10, 116, 105, 109, 101, 32])) F3 B3 := by
    by_cases z : mi = 1
    · rw [if_pos z, if_pos z]
      exact C_strg k0 hK (by decide) (by decide) (by decide) (by decide) w2
    · rw [if_neg z, if_neg z]
      exact C_strg k0 hK (by decide) (by decide) (by decide) (by decide) w2
  obtain ⟨F4, B4, e4, w4⟩ := C_dec (v := n) k0 hK hn w3
  obtain ⟨F5, B5, e5, w5⟩ := C_pt (a := 47) k0 w4
  obtain ⟨F6, B6, e6, w6⟩ := C_dec (v := d) k0 hK hd w5
  obtain ⟨F7, B7, e7, w7⟩ := C_strg (s := 7) (U := [10, 116, 101, 109, 112, 111, 32]) k0 hK (by decide) (by decide) (by decide) (by decide) w6
  obtain ⟨F8, B8, e8, w8⟩ := C_dec (v := te) k0 hK hte w7
  obtain ⟨F9, B9, e9, w9⟩ := C_pt (a := 10) k0 w8
  have g : ∀ {T : List Int} {F' : zF} {B' : zB}, TC (F, B) T F' B' → F' 7 0 0 = o ∧ F' 7 0 1 = 1 ∧ B' 8 o 0 3 = mi ∧ B' 8 o 0 4 = n ∧ B' 8 o 0 5 = d ∧ B' 8 o 0 6 = te := fun h => ⟨by rw [h.2.1 7 0 0 (by first | decide | omega)]; exact h0.1, by rw [h.2.1 7 0 1 (by first | decide | omega)]; exact h1, by rw [h.2.2 8 o 0 3 (by first | decide | omega)]; exact b3, by rw [h.2.2 8 o 0 4 (by first | decide | omega)]; exact b4, by rw [h.2.2 8 o 0 5 (by first | decide | omega)]; exact b5, by rw [h.2.2 8 o 0 6 (by first | decide | omega)]; exact b6⟩
  refine ⟨F9, B9, ?_, ?_⟩
  · have o0 : (0 : Int) ≤ 1 ∧ (1 : Int) < K.2 0 := by omega
    have e63 : f_Scribe_writeHead_63 K 0 1 (if mi = 1 then 5 else 6) F2 B2 = some (0, F9, B9) := by
      unfold f_Scribe_writeHead_63
      rw [if_pos o0, e3, zb_s, if_pos ⟨(by first | decide | omega), k7⟩, (g w3).1, if_pos h0.2, (g w3).2.1, if_pos o0, (g w3).2.2.2.1, e4, zb_s, (g w4).2.1, if_pos o0, e5, zb_s, (g w5).1, if_pos h0.2, (g w5).2.1, if_pos o0, (g w5).2.2.2.2.1, e6, zb_s, (g w6).2.1, if_pos o0, e7, zb_s, (g w7).1, if_pos h0.2, (g w7).2.1, if_pos o0, (g w7).2.2.2.2.2, e8, zb_s, (g w8).2.1, if_pos o0, e9, zb_s]
    have e25 : f_Scribe_writeHead_25 K f 0 1 (if 0 ≤ f then 4 else 3) F B = some (0, F9, B9) := by
      unfold f_Scribe_writeHead_25
      rw [if_pos o0, e1, zb_s, if_pos ⟨(by first | decide | omega), k7⟩, (g w1).2.1, if_pos o0, if_pos (by unfold r32; omega), za, e2, zb_s, (g w2).1, if_pos h0.2, (g w2).2.2.1, if_pos (by unfold r32; omega), (g w2).2.1, ← e63]
      by_cases z : mi = 1
      · rw [if_pos z, if_pos z]
      · rw [if_neg z, if_neg z]
    unfold f_Scribe_writeHead
    rw [if_pos ⟨(by first | decide | omega), k7⟩, h0.1, if_pos h0.2, b2, if_pos (by unfold r32; omega), h1, ← e25]
    by_cases z : 0 ≤ f
    · rw [if_pos z, if_pos z]
    · rw [if_neg z, if_neg z]
  · unfold hdT
    simp only [List.append_assoc, List.cons_append, List.nil_append] at w9 ⊢
    exact w9
theorem M_head {Km : Nat} {w' f mi n d te : Int} {F : zF} {B : zB} (hK : 200 ≤ Km) (hf : -7 ≤ f ∧ f ≤ 7) (hn : 0 ≤ n ∧ n < 1000) (hd : 0 ≤ d ∧ d < 1000) (hte : 0 ≤ te ∧ te < 1000) (hmi : mi = 0 ∨ mi = 1) (hw : F 14 0 6 = w' ∧ 0 ≤ w' ∧ w' < 3) (m2 : F 13 w' 2 = f) (m3 : F 13 w' 3 = mi) (m4 : F 13 w' 4 = n) (m5 : F 13 w' 5 = d) (b6 : B 14 0 73 6 = te) (w : TM (F, B) [] F B) : ∃ F' B', f_M_downHeads Km F B = some (0, F', B') ∧ TM (F, B) (hdT f mi n d te) F' B' := by
  have zr : 0 ≤ (if 0 ≤ f then f else -f) ∧ (if 0 ≤ f then f else -f) < 1000 := by split <;> omega
  have g : ∀ {T : List Int} {F' : zF} {B' : zB}, TM (F, B) T F' B' → F' 14 0 6 = w' ∧ F' 13 w' 2 = f ∧ F' 13 w' 3 = mi ∧ F' 13 w' 4 = n ∧ F' 13 w' 5 = d ∧ B' 14 0 73 6 = te := fun h => ⟨by rw [h.2.1 14 0 6 (by first | decide | omega)]; exact hw.1, by rw [h.2.1 13 w' 2 (by first | decide | omega)]; exact m2, by rw [h.2.1 13 w' 3 (by first | decide | omega)]; exact m3, by rw [h.2.1 13 w' 4 (by first | decide | omega)]; exact m4, by rw [h.2.1 13 w' 5 (by first | decide | omega)]; exact m5, by rw [h.2.2 14 0 73 6 (by first | decide | omega)]; exact b6⟩
  obtain ⟨F1, B1, e1, w1⟩ := M_strg (Km := Km) (s := 38) (U := [107, 101, 121, 32]) hK (by decide) (by decide) (by decide) (by decide) (by simp) w
  obtain ⟨F2, B2, e2, w2⟩ : ∃ F2 B2, (if 0 ≤ f then f_M_downHeads_23 Km F1 B1 else zbind (f_M_put_0 Km 45 F1 B1) (fun r5 F5 B5 => f_M_downHeads_23 Km F5 B5)) = f_M_downHeads_23 Km F2 B2 ∧ TM (F, B) ([] ++ [107, 101, 121, 32] ++ (if f < 0 then [45] else [])) F2 B2 := by
    by_cases z : 0 ≤ f
    · rw [if_pos z, if_neg (by first | decide | omega), List.append_nil]
      exact ⟨F1, B1, rfl, w1⟩
    · obtain ⟨F2, B2, e2, w2⟩ := M_pt (Km := Km) (a := 45) (by simp) w1
      rw [if_neg z, if_pos (by first | decide | omega), e2, zb_s]
      exact ⟨F2, B2, rfl, w2⟩
  have l2 := if_l (c := f < 0) (x := 45)
  obtain ⟨F3, B3, e3, w3⟩ := M_dec (Km := Km) (v := if 0 ≤ f then f else -f) hK zr (by simp only [List.length_append, List.length_cons, List.length_nil]; omega) w2
  have l3 := decT_l (v := if 0 ≤ f then f else -f)
  obtain ⟨F4, B4, e4, w4⟩ : ∃ F4 B4, f_M_put_1 Km (if mi = 0 then 40 else 39) F3 B3 = some (0, F4, B4) ∧ TM (F, B) ([] ++ [107, 101, 121, 32] ++ (if f < 0 then [45] else []) ++ decT (if 0 ≤ f then f else -f) ++ (if mi = 1 then [32, 109, 105, 110, 111, 114] else [32, 109, 97, 106, 111, 114])) F4 B4 := by
    rcases hmi with z | z
    · rw [z, if_pos (show (0 : Int) = 0 from rfl), if_neg (show ¬ (0 : Int) = 1 by decide)]
      exact M_strg hK (by decide) (by decide) (by decide) (by decide) (by simp only [List.length_append, List.length_cons, List.length_nil]; omega) w3
    · rw [z, if_neg (show ¬ (1 : Int) = 0 by decide), if_pos (show (1 : Int) = 1 from rfl)]
      exact M_strg hK (by decide) (by decide) (by decide) (by decide) (by simp only [List.length_append, List.length_cons, List.length_nil]; omega) w3
  have l4 : ((if mi = 1 then [32, 109, 105, 110, 111, 114] else [32, 109, 97, 106, 111, 114]) : List Int).length = 6 := by split <;> rfl
  obtain ⟨F5, B5, e5, w5⟩ := M_pt (Km := Km) (a := 10) (by simp only [List.length_append, List.length_cons, List.length_nil]; omega) w4
  obtain ⟨F6, B6, e6, w6⟩ := M_strg (Km := Km) (s := 41) (U := [116, 105, 109, 101, 32]) hK (by decide) (by decide) (by decide) (by decide) (by simp only [List.length_append, List.length_cons, List.length_nil]; omega) w5
  obtain ⟨F7, B7, e7, w7⟩ := M_dec (Km := Km) (v := n) hK hn (by simp only [List.length_append, List.length_cons, List.length_nil]; omega) w6
  have l7 := decT_l (v := n)
  obtain ⟨F8, B8, e8, w8⟩ := M_pt (Km := Km) (a := 47) (by simp only [List.length_append, List.length_cons, List.length_nil]; omega) w7
  obtain ⟨F9, B9, e9, w9⟩ := M_dec (Km := Km) (v := d) hK hd (by simp only [List.length_append, List.length_cons, List.length_nil]; omega) w8
  have l9 := decT_l (v := d)
  obtain ⟨F10, B10, e10, w10⟩ := M_pt (Km := Km) (a := 10) (by simp only [List.length_append, List.length_cons, List.length_nil]; omega) w9
  obtain ⟨F11, B11, e11, w11⟩ := M_strg (Km := Km) (s := 42) (U := [116, 101, 109, 112, 111, 32]) hK (by decide) (by decide) (by decide) (by decide) (by simp only [List.length_append, List.length_cons, List.length_nil]; omega) w10
  obtain ⟨F12, B12, e12, w12⟩ := M_dec (Km := Km) (v := te) hK hte (by simp only [List.length_append, List.length_cons, List.length_nil]; omega) w11
  have l12 := decT_l (v := te)
  obtain ⟨F13, B13, e13, w13⟩ := M_pt (Km := Km) (a := 10) (by simp only [List.length_append, List.length_cons, List.length_nil]; omega) w12
  refine ⟨F13, B13, ?_, ?_⟩
  · have e75 : f_M_downHeads_75 Km (if mi = 0 then 40 else 39) F3 B3 = some (0, F13, B13) := by
      unfold f_M_downHeads_75
      rw [e4, zb_s, e5, zb_s, e6, zb_s, (g w6).1, if_pos hw.2, (g w6).2.2.2.1, e7, zb_s, e8, zb_s, (g w8).1, if_pos hw.2, (g w8).2.2.2.2.1, e9, zb_s, e10, zb_s, e11, zb_s, (g w11).2.2.2.2.2, e12, zb_s, e13, zb_s]
    have e52 : f_M_downHeads_52 Km (if 0 ≤ f then f else -f) F2 B2 = some (0, F13, B13) := by
      unfold f_M_downHeads_52
      rw [e3, zb_s, (g w3).1, if_pos hw.2, (g w3).2.2.1, if_pos (by unfold r32; omega), ← e75]
      by_cases z : mi = 0
      · rw [if_pos z, if_pos z]
      · rw [if_neg z, if_neg z]
    have e23 : f_M_downHeads_23 Km F2 B2 = some (0, F13, B13) := by
      unfold f_M_downHeads_23
      rw [(g w2).1, if_pos hw.2, (g w2).2.1, if_pos (by unfold r32; omega), ← e52]
      by_cases z : 0 ≤ f
      · rw [if_pos z, if_pos z]
      · rw [if_neg z, if_neg z]
    unfold f_M_downHeads
    rw [e1, zb_s, (g w1).1, if_pos hw.2, (g w1).2.1, if_pos (by unfold r32; omega), e2, e23]
  · unfold hdT
    simp only [List.append_assoc, List.cons_append, List.nil_append] at w13 ⊢
    exact w13
theorem L_cmpG {Km : Nat} {g n d b last : Int} {F : zF} {B : zB} (hKm : 1000 ≤ Km) (hb : BRs n d b) (hg : g = 4 ∨ g = 8 ∨ g = 16 ∨ g = 32) (hl : 0 ≤ last ∧ last ≤ 40000000000000) : ∃ r, f_M_compare Km last g (100 * n) d F B = some (r, F, B) ∧ (0 < r ↔ 100 * b < 512 / g * last) ∧ (r = -1 ∨ r = 0 ∨ r = 1) := by
  obtain ⟨hn, hd, eb⟩ := hb
  have key : ∀ (x r1 y z : Int), gc g d = r1 → 0 < r1 → r1 ≤ 32 → d / r1 = y → g / r1 = z → (1 ≤ y ∧ y ≤ 16) → (1 ≤ z ∧ z ≤ 32) → (last * y ≤ 100 * n * z ↔ 512 / g * last ≤ 100 * b) → (0 ≤ last * y ∧ last * y ≤ 1000000000000000) → (0 ≤ 100 * n * z ∧ 100 * n * z ≤ 1000000) → ∃ r, f_M_compare Km last g (100 * n) d F B = some (r, F, B) ∧ (0 < r ↔ 100 * b < 512 / g * last) ∧ (r = -1 ∨ r = 0 ∨ r = 1) := fun x r1 y z e r0 r32' ey ez hy hz hi h1 h2 => by
    unfold f_M_compare f_M_compare_51
    rw [L_gcd (by first | decide | omega) (by first | decide | omega) (by first | decide | omega) (by first | decide | omega) (by first | decide | omega), zb_s, e, if_pos (lI_n0 r0 (by unfold r64; omega)), zldv_e (by first | decide | omega) (by first | decide | omega) r0 (by first | decide | omega), zldv_e (by first | decide | omega) (by first | decide | omega) r0 (by first | decide | omega), ey, ez, if_pos (by unfold r64; omega), if_pos (by unfold r64; omega)]
    by_cases c : 100 * n * z ≤ last * y
    · rw [if_pos (zcmp_o.mpr c)]
      by_cases c2 : last * y ≤ 100 * n * z
      · rw [if_pos (zcmp_m.mpr c2)]
        exact ⟨0, rfl, by have := hi.mp c2; omega, (by first | decide | omega)⟩
      · rw [if_neg (fun q => c2 (zcmp_m.mp q))]
        refine ⟨1, rfl, ⟨fun _ => ?_, fun _ => (by first | decide | omega)⟩, (by first | decide | omega)⟩
        rcases Int.lt_or_le (100 * b) (512 / g * last) with q | q
        · exact q
        · exact absurd (hi.mpr q) c2
    · rw [if_neg (fun q => c (zcmp_o.mp q))]
      have := hi.mp (by first | decide | omega)
      exact ⟨-1, rfl, (by first | decide | omega), (by first | decide | omega)⟩
  rcases hg with rfl | rfl | rfl | rfl <;> rcases hd with rfl | rfl | rfl | rfl
  · exact key 0 2 1 2 (by decide +kernel) (by decide) (by decide) (by decide) (by decide) (by decide) (by decide) (by show _ ↔ 128 * last ≤ _; have : b = 256 * n := eb; omega) (by first | decide | omega) (by first | decide | omega)
  · exact key 0 4 1 1 (by decide +kernel) (by decide) (by decide) (by decide) (by decide) (by decide) (by decide) (by show _ ↔ 128 * last ≤ _; have : b = 128 * n := eb; omega) (by first | decide | omega) (by first | decide | omega)
  · exact key 0 4 2 1 (by decide +kernel) (by decide) (by decide) (by decide) (by decide) (by decide) (by decide) (by show _ ↔ 128 * last ≤ _; have : b = 64 * n := eb; omega) (by first | decide | omega) (by first | decide | omega)
  · exact key 0 4 4 1 (by decide +kernel) (by decide) (by decide) (by decide) (by decide) (by decide) (by decide) (by show _ ↔ 128 * last ≤ _; have : b = 32 * n := eb; omega) (by first | decide | omega) (by first | decide | omega)
  · exact key 0 2 1 4 (by decide +kernel) (by decide) (by decide) (by decide) (by decide) (by decide) (by decide) (by show _ ↔ 64 * last ≤ _; have : b = 256 * n := eb; omega) (by first | decide | omega) (by first | decide | omega)
  · exact key 0 4 1 2 (by decide +kernel) (by decide) (by decide) (by decide) (by decide) (by decide) (by decide) (by show _ ↔ 64 * last ≤ _; have : b = 128 * n := eb; omega) (by first | decide | omega) (by first | decide | omega)
  · exact key 0 8 1 1 (by decide +kernel) (by decide) (by decide) (by decide) (by decide) (by decide) (by decide) (by show _ ↔ 64 * last ≤ _; have : b = 64 * n := eb; omega) (by first | decide | omega) (by first | decide | omega)
  · exact key 0 8 2 1 (by decide +kernel) (by decide) (by decide) (by decide) (by decide) (by decide) (by decide) (by show _ ↔ 64 * last ≤ _; have : b = 32 * n := eb; omega) (by first | decide | omega) (by first | decide | omega)
  · exact key 0 2 1 8 (by decide +kernel) (by decide) (by decide) (by decide) (by decide) (by decide) (by decide) (by show _ ↔ 32 * last ≤ _; have : b = 256 * n := eb; omega) (by first | decide | omega) (by first | decide | omega)
  · exact key 0 4 1 4 (by decide +kernel) (by decide) (by decide) (by decide) (by decide) (by decide) (by decide) (by show _ ↔ 32 * last ≤ _; have : b = 128 * n := eb; omega) (by first | decide | omega) (by first | decide | omega)
  · exact key 0 8 1 2 (by decide +kernel) (by decide) (by decide) (by decide) (by decide) (by decide) (by decide) (by show _ ↔ 32 * last ≤ _; have : b = 64 * n := eb; omega) (by first | decide | omega) (by first | decide | omega)
  · exact key 0 16 1 1 (by decide +kernel) (by decide) (by decide) (by decide) (by decide) (by decide) (by decide) (by show _ ↔ 32 * last ≤ _; have : b = 32 * n := eb; omega) (by first | decide | omega) (by first | decide | omega)
  · exact key 0 2 1 16 (by decide +kernel) (by decide) (by decide) (by decide) (by decide) (by decide) (by decide) (by show _ ↔ 16 * last ≤ _; have : b = 256 * n := eb; omega) (by first | decide | omega) (by first | decide | omega)
  · exact key 0 4 1 8 (by decide +kernel) (by decide) (by decide) (by decide) (by decide) (by decide) (by decide) (by show _ ↔ 16 * last ≤ _; have : b = 128 * n := eb; omega) (by first | decide | omega) (by first | decide | omega)
  · exact key 0 8 1 4 (by decide +kernel) (by decide) (by decide) (by decide) (by decide) (by decide) (by decide) (by show _ ↔ 16 * last ≤ _; have : b = 64 * n := eb; omega) (by first | decide | omega) (by first | decide | omega)
  · exact key 0 16 1 2 (by decide +kernel) (by decide) (by decide) (by decide) (by decide) (by decide) (by decide) (by show _ ↔ 16 * last ≤ _; have : b = 32 * n := eb; omega) (by first | decide | omega) (by first | decide | omega)
end
