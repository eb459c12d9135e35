section
/-! ===== written bytes, both sides ===== -/
/-- n bytes written alike; all else as it was in q -/
def WB (q : zF × zB × zF × zB) (n : Int) (F : zF) (B : zB) (Fm : zF) (Bm : zB) : Prop := (F 0 1 1 = n ∧ Fm 14 0 71 = n ∧ 0 ≤ n) ∧ (∀ j, 0 ≤ j → j < n → B 0 1 0 j = Bm 14 0 70 j % 256) ∧ (∀ c y k, ¬ (c = 0 ∧ y = 1 ∧ 1 ≤ k ∧ k ≤ 2) → F c y k = q.1 c y k) ∧ (∀ c y k x, ¬ (c = 0 ∧ y = 1 ∧ k = 0) → B c y k x = q.2.1 c y k x) ∧ (∀ c y k, ¬ (c = 14 ∧ y = 0 ∧ k = 71) → Fm c y k = q.2.2.1 c y k) ∧ (∀ c y k x, ¬ (c = 14 ∧ y = 0 ∧ k = 70) → Bm c y k x = q.2.2.2 c y k x)
theorem zi2b_m (b : Int) : zi2b (zi2b b) % 256 = b % 256 := by
  rw [zi2b_i, zi2b_e, bmod256]
theorem W_put {K : zK} {Km : Nat} {q : zF × zB × zF × zB} {n a b : Int} {F : zF} {B : zB} {Fm : zF} {Bm : zB} (h0 : 2 ≤ K.2 0) (hn : n < 20480) (e : a % 256 = b % 256) (h : WB q n F B Fm Bm) : ∃ F' B' Fm' Bm', f_ByteRow_put K 1 a F B = some (0, F', B') ∧ f_M_put_0 Km b Fm Bm = some (0, Fm', Bm') ∧ WB q (n + 1) F' B' Fm' Bm' := by
  obtain ⟨⟨f1, m1, n0⟩, hb, gF, gB, gM, gN⟩ := h
  have ln : ((lnC 0 1 0 : Nat) : Int) = 20480 := by decide
  refine ⟨zup3 F 0 1 1 (n + 1), zup4 B 0 1 0 n (a % 256), zup3 Fm 14 0 71 (n + 1), zup4 Bm 14 0 70 n (zi2b (zi2b b)), ?_, ?_, ⟨by rw [zup3_v, if_pos (by first | decide | omega)], by rw [zup3_v, if_pos (by first | decide | omega)], (by first | decide | omega)⟩, fun j j0 j1 => ?_, fun c y k z => ?_, fun c y k x z => ?_, fun c y k z => ?_, fun c y k x z => ?_⟩
  · unfold f_ByteRow_put
    rw [f1, ln, if_pos (by first | decide | omega), if_pos (by unfold r32; omega), if_pos (by unfold r32; omega), if_pos hn, if_pos (by first | decide | omega), zand255]
  · unfold f_M_put_0 f_M_put_0_20
    rw [m1, if_pos (by unfold r32; omega), if_neg (by first | decide | omega), if_pos (by first | decide | omega)]
  · rw [zup4_v, zup4_v]
    by_cases z : j = n
    · rw [if_pos (by first | decide | omega), if_pos (by first | decide | omega), zi2b_m]; exact e
    · rw [if_neg (by first | decide | omega), if_neg (by first | decide | omega)]; exact hb j j0 (by first | decide | omega)
  · rw [zup3_v, if_neg (by first | decide | omega)]; exact gF c y k z
  · rw [zup4_v, if_neg (by first | decide | omega)]; exact gB c y k x z
  · rw [zup3_v, if_neg (by first | decide | omega)]; exact gM c y k z
  · rw [zup4_v, if_neg (by first | decide | omega)]; exact gN c y k x z
theorem P_put {K : zK} {Km : Nat} {q : zF × zB × zF × zB} {n a b : Int} {F : zF} {B : zB} {Fm : zF} {Bm : zB} {f g : Int → zF → zB → zO} {Q : Int → zF → zB → Int → zF → zB → Prop} (h0 : 2 ≤ K.2 0) (h : WB q n F B Fm Bm) (hn : n < 20480) (e : a % 256 = b % 256) (k : ∀ F' B' Fm' Bm', WB q (n + 1) F' B' Fm' Bm' → zP (f 0 F' B') (g 0 Fm' Bm') Q) : zP (zbind (f_ByteRow_put K 1 a F B) f) (zbind (f_M_put_0 Km b Fm Bm) g) Q := by
  obtain ⟨F', B', Fm', Bm', x1, x2, x3⟩ := W_put (Km := Km) h0 hn e h
  rw [x1, x2]
  exact k F' B' Fm' Bm' x3
theorem P_some {r r' : Int} {F : zF} {B : zB} {Fm : zF} {Bm : zB} {Q : Int → zF → zB → Int → zF → zB → Prop} (h : Q r F B r' Fm Bm) : zP (some (r, F, B)) (some (r', Fm, Bm)) Q := ⟨r, F, B, r', Fm, Bm, rfl, rfl, h⟩
theorem P_bind {x y : zO} {f g : Int → zF → zB → zO} {R Q : Int → zF → zB → Int → zF → zB → Prop} (h : zP x y R) (k : ∀ r F B r' Fm Bm, R r F B r' Fm Bm → zP (f r F B) (g r' Fm Bm) Q) : zP (zbind x f) (zbind y g) Q := by
  obtain ⟨r, F, B, r', Fm, Bm, h1, h2, h3⟩ := h
  rw [h1, h2]
  exact k _ _ _ _ _ _ h3
theorem zb_a2 {x : zO} {t k : Int → zF → zB → zO} : zbind (zbind x t) k = zbind x (fun r F B => zbind (t r F B) k) := by
  cases x with
  | none => rfl
  | some q => rfl
/-- written so far: the answer's own shape -/
def WA (q : zF × zB × zF × zB) (n : Int) : Int → zF → zB → Int → zF → zB → Prop := fun _ F B _ Fm Bm => WB q n F B Fm Bm
theorem P_meta {K : zK} {Km : Nat} {q : zF × zB × zF × zB} {n a b : Int} {F : zF} {B : zB} {Fm : zF} {Bm : zB} {f g : Int → zF → zB → zO} {Q : Int → zF → zB → Int → zF → zB → Prop} (h0 : 2 ≤ K.2 0) (h : WB q n F B Fm Bm) (hn : n < 20470) (k : ∀ F' B' Fm' Bm', WB q (n + 4) F' B' Fm' Bm' → zP (f 0 F' B') (g 0 Fm' Bm') Q) : zP (zbind (f_Performance_putMeta K 1 a b F B) f) (zbind (f_M_put_0 Km 0 Fm Bm) (fun _ F B => zbind (f_M_put_0 Km 255 F B) (fun _ F B => zbind (f_M_put_0 Km a F B) (fun _ F B => zbind (f_M_put_0 Km b F B) g)))) Q := by
  unfold f_Performance_putMeta
  rw [if_pos (by first | decide | omega)]
  simp only [zb_a2]
  refine P_put h0 h (by first | decide | omega) rfl (fun F1 B1 G1 D1 w1 => ?_)
  refine P_put h0 w1 (by first | decide | omega) rfl (fun F2 B2 G2 D2 w2 => ?_)
  refine P_put h0 w2 (by first | decide | omega) rfl (fun F3 B3 G3 D3 w3 => ?_)
  refine P_put h0 w3 (by first | decide | omega) rfl (fun F4 B4 G4 D4 w4 => ?_)
  rw [show n + 1 + 1 + 1 + 1 = n + 4 by omega] at w4
  exact k _ _ _ _ w4
/-- wide numbers -/
theorem ush_m {a s : Int} (hs : s = 0 ∨ s = 8 ∨ s = 16 ∨ s = 24) : zushr a s % 256 = (a / 2 ^ s.toNat) % 256 := by
  rw [← zand255, zushr_byte hs]
theorem C_wide {K : zK} {a l : Int} {F : zF} {B : zB} (h0 : 2 ≤ K.2 0) (m : Nat) (hl : 0 ≤ l ∧ l ≤ 3) : f_ByteRow_putWide_4 K (m + 1) l 1 a F B = zbind (f_ByteRow_put K 1 (zushr a (8 * l)) F B) (fun _ F B => f_ByteRow_putWide_4 K m (l - 1) 1 a F B) := by
  unfold f_ByteRow_putWide_4
  rw [if_pos (by unfold r32; omega), if_neg (by first | decide | omega), if_pos (by first | decide | omega)]
  cases m <;> rfl
theorem C_wideE {K : zK} {a : Int} {F : zF} {B : zB} (m : Nat) : f_ByteRow_putWide_4 K (m + 1) (-1) 1 a F B = some (0, F, B) := by
  unfold f_ByteRow_putWide_4
  rw [if_pos (by decide), if_pos (by decide)]
theorem C_w2 {K : zK} {a : Int} {F : zF} {B : zB} (h0 : 2 ≤ K.2 0) (hK : 10 ≤ K.1) : f_ByteRow_putWide K 1 a 2 F B = zbind (f_ByteRow_put K 1 (zushr a 8) F B) (fun _ F B => zbind (f_ByteRow_put K 1 (zushr a 0) F B) (fun _ F B => some (0, F, B))) := by
  obtain ⟨m, e⟩ : ∃ m, K.1 = m + 1 + 1 + 1 := ⟨K.1 - 3, (by first | decide | omega)⟩
  unfold f_ByteRow_putWide
  rw [e, C_wide h0 _ (by first | decide | omega)]
  simp only [show (2 : Int) - 1 = 1 from rfl, show (8 : Int) * 1 = 8 from rfl, show (1 : Int) - 1 = 0 from rfl]
  simp only [C_wide (l := 0) h0 _ (by first | decide | omega), show (0 : Int) - 1 = -1 from rfl, C_wideE, show (8 : Int) * 0 = 0 from rfl]
theorem C_w3 {K : zK} {a : Int} {F : zF} {B : zB} (h0 : 2 ≤ K.2 0) (hK : 10 ≤ K.1) : f_ByteRow_putWide K 1 a 3 F B = zbind (f_ByteRow_put K 1 (zushr a 16) F B) (fun _ F B => zbind (f_ByteRow_put K 1 (zushr a 8) F B) (fun _ F B => zbind (f_ByteRow_put K 1 (zushr a 0) F B) (fun _ F B => some (0, F, B)))) := by
  obtain ⟨m, e⟩ : ∃ m, K.1 = m + 1 + 1 + 1 + 1 := ⟨K.1 - 4, (by first | decide | omega)⟩
  unfold f_ByteRow_putWide
  rw [e, C_wide h0 _ (by first | decide | omega)]
  simp only [show (3 : Int) - 1 = 2 from rfl, show (8 : Int) * 2 = 16 from rfl, show (2 : Int) - 1 = 1 from rfl]
  simp only [C_wide (l := 1) h0 _ (by first | decide | omega), show (8 : Int) * 1 = 8 from rfl, show (1 : Int) - 1 = 0 from rfl]
  simp only [C_wide (l := 0) h0 _ (by first | decide | omega), show (0 : Int) - 1 = -1 from rfl, C_wideE, show (8 : Int) * 0 = 0 from rfl]
theorem C_w4 {K : zK} {a : Int} {F : zF} {B : zB} (h0 : 2 ≤ K.2 0) (hK : 10 ≤ K.1) : f_ByteRow_putWide K 1 a 4 F B = zbind (f_ByteRow_put K 1 (zushr a 24) F B) (fun _ F B => zbind (f_ByteRow_put K 1 (zushr a 16) F B) (fun _ F B => zbind (f_ByteRow_put K 1 (zushr a 8) F B) (fun _ F B => zbind (f_ByteRow_put K 1 (zushr a 0) F B) (fun _ F B => some (0, F, B))))) := by
  obtain ⟨m, e⟩ : ∃ m, K.1 = m + 1 + 1 + 1 + 1 + 1 := ⟨K.1 - 5, (by first | decide | omega)⟩
  unfold f_ByteRow_putWide
  rw [e, C_wide h0 _ (by first | decide | omega)]
  simp only [show (4 : Int) - 1 = 3 from rfl, show (8 : Int) * 3 = 24 from rfl, show (3 : Int) - 1 = 2 from rfl]
  simp only [C_wide (l := 2) h0 _ (by first | decide | omega), show (8 : Int) * 2 = 16 from rfl, show (2 : Int) - 1 = 1 from rfl]
  simp only [C_wide (l := 1) h0 _ (by first | decide | omega), show (8 : Int) * 1 = 8 from rfl, show (1 : Int) - 1 = 0 from rfl]
  simp only [C_wide (l := 0) h0 _ (by first | decide | omega), show (0 : Int) - 1 = -1 from rfl, C_wideE, show (8 : Int) * 0 = 0 from rfl]
theorem L_four1 {Km : Nat} {a l : Int} {F : zF} {B : zB} (m : Nat) (hl : 0 ≤ l ∧ l ≤ 24) : f_M_four_3 Km (m + 1) l a F B = zbind (f_M_put_0 Km (zand (zshr a l) 255) F B) (fun _ F B => f_M_four_3 Km m (l - 8) a F B) := by
  unfold f_M_four_3
  rw [if_pos (by unfold r32; omega), if_neg (by first | decide | omega)]
  cases m <;> rfl
theorem L_fourE {Km : Nat} {a : Int} {F : zF} {B : zB} (m : Nat) : f_M_four_3 Km (m + 1) (-8) a F B = some (0, F, B) := by
  unfold f_M_four_3
  rw [if_pos (by decide), if_pos (by decide)]
theorem L_four {Km : Nat} {a : Int} {F : zF} {B : zB} (hK : 10 ≤ Km) : f_M_four Km a F B = zbind (f_M_put_0 Km (zand (zshr a 24) 255) F B) (fun _ F B => zbind (f_M_put_0 Km (zand (zshr a 16) 255) F B) (fun _ F B => zbind (f_M_put_0 Km (zand (zshr a 8) 255) F B) (fun _ F B => zbind (f_M_put_0 Km (zand (zshr a 0) 255) F B) (fun _ F B => some (0, F, B))))) := by
  obtain ⟨m, e⟩ : ∃ m, Km = m + 1 + 1 + 1 + 1 + 1 := ⟨Km - 5, (by first | decide | omega)⟩
  have g : ∀ u, f_M_four u a F B = f_M_four_3 u u 24 a F B := fun _ => rfl
  rw [g]
  have k : ∀ i, i = m + 1 + 1 + 1 + 1 + 1 → f_M_four_3 Km i 24 a F B = zbind (f_M_put_0 Km (zand (zshr a 24) 255) F B) (fun _ F B => zbind (f_M_put_0 Km (zand (zshr a 16) 255) F B) (fun _ F B => zbind (f_M_put_0 Km (zand (zshr a 8) 255) F B) (fun _ F B => zbind (f_M_put_0 Km (zand (zshr a 0) 255) F B) (fun _ F B => some (0, F, B))))) := fun i ei => by
    rw [ei, L_four1 _ (by first | decide | omega)]
    simp only [show (24 : Int) - 8 = 16 from rfl, L_four1 (l := 16) _ (by first | decide | omega), show (16 : Int) - 8 = 8 from rfl]
    simp only [L_four1 (l := 8) _ (by first | decide | omega), show (8 : Int) - 8 = 0 from rfl]
    simp only [L_four1 (l := 0) _ (by first | decide | omega), show (0 : Int) - 8 = -8 from rfl, L_fourE]
  exact k Km e
theorem by_sh {a s : Int} (ha : r32 a) (hs : s = 0 ∨ s = 8 ∨ s = 16 ∨ s = 24) : zushr a s % 256 = zand (zshr a s) 255 % 256 := by
  rw [ush_m hs, zand255, zshr_byte ha hs]
  omega
theorem P_four {K : zK} {Km : Nat} {q : zF × zB × zF × zB} {n a : Int} {F : zF} {B : zB} {Fm : zF} {Bm : zB} {f g : Int → zF → zB → zO} {Q : Int → zF → zB → Int → zF → zB → Prop} (h0 : 2 ≤ K.2 0) (hK : 10 ≤ K.1) (hKm : 10 ≤ Km) (ha : r32 a) (h : WB q n F B Fm Bm) (hn : n < 20470) (k : ∀ F' B' Fm' Bm', WB q (n + 4) F' B' Fm' Bm' → zP (f 0 F' B') (g 0 Fm' Bm') Q) : zP (zbind (f_ByteRow_putWide K 1 a 4 F B) f) (zbind (f_M_four Km a Fm Bm) g) Q := by
  rw [C_w4 h0 hK, L_four hKm]
  simp only [zb_a2]
  refine P_put h0 h (by first | decide | omega) (by_sh ha (by first | decide | omega)) (fun F1 B1 G1 D1 w1 => ?_)
  refine P_put h0 w1 (by first | decide | omega) (by_sh ha (by first | decide | omega)) (fun F2 B2 G2 D2 w2 => ?_)
  refine P_put h0 w2 (by first | decide | omega) (by_sh ha (by first | decide | omega)) (fun F3 B3 G3 D3 w3 => ?_)
  refine P_put h0 w3 (by first | decide | omega) (by_sh ha (by first | decide | omega)) (fun F4 B4 G4 D4 w4 => ?_)
  rw [show n + 1 + 1 + 1 + 1 = n + 4 by omega] at w4
  exact k _ _ _ _ w4
theorem P_two {K : zK} {Km : Nat} {q : zF × zB × zF × zB} {n a : Int} {F : zF} {B : zB} {Fm : zF} {Bm : zB} {f g : Int → zF → zB → zO} {Q : Int → zF → zB → Int → zF → zB → Prop} (h0 : 2 ≤ K.2 0) (hK : 10 ≤ K.1) (ha : 0 ≤ a ∧ a < 256) (h : WB q n F B Fm Bm) (hn : n < 20470) (k : ∀ F' B' Fm' Bm', WB q (n + 2) F' B' Fm' Bm' → zP (f 0 F' B') (g 0 Fm' Bm') Q) : zP (zbind (f_ByteRow_putWide K 1 a 2 F B) f) (zbind (f_M_put_0 Km 0 Fm Bm) (fun _ F B => zbind (f_M_put_0 Km a F B) g)) Q := by
  rw [C_w2 h0 hK]
  simp only [zb_a2]
  refine P_put h0 h (by first | decide | omega) (by rw [ush_m (by first | decide | omega)]; show a / 256 % 256 = 0 % 256; omega) (fun F1 B1 G1 D1 w1 => ?_)
  refine P_put h0 w1 (by first | decide | omega) (by rw [ush_m (by first | decide | omega)]; show a / 1 % 256 = a % 256; omega) (fun F2 B2 G2 D2 w2 => ?_)
  rw [show n + 1 + 1 = n + 2 by omega] at w2
  exact k _ _ _ _ w2
end
