section
/-! ===== a number of sevens, both sides ===== -/
theorem L_48x {Km : Nat} {o p v : Int} {F : zF} {Fm : zF} {Bm : zB} (h : RX o F Fm) : f_M_seven_48 Km p v Fm Bm = some (v, Fm, Bm) := by
  unfold f_M_seven_48 f_M_seven_73
  rw [L_goodX h, zb_s, if_pos (by decide), if_pos rfl]
theorem L_8X {Km m : Nat} {o p v k : Int} {F : zF} {Fm : zF} {Bm : zB} (hk : 0 ≤ k ∧ k ≤ 4) (h : RX o F Fm) : f_M_seven_8 Km (m + 1) k p v Fm Bm = some (v, Fm, Bm) := by
  rw [f_M_seven_8, if_pos (by unfold r32; omega)]
  by_cases z : 4 ≤ k
  · rw [if_pos z, L_48x h]
  · rw [if_neg z, L_goodX h, zb_s, if_pos (by decide), if_pos rfl, L_48x h]
theorem L_8g {Km m : Nat} {p v k : Int} {Fm : zF} {Bm : zB} (hk : 0 ≤ k ∧ k ≤ 4) (hp : 0 ≤ p ∧ p < 128) (h : Fm 14 0 17 = 0) : f_M_seven_8 Km (m + 1) k p v Fm Bm = some (v, Fm, Bm) := by
  have e : f_M_seven_48 Km p v Fm Bm = some (v, Fm, Bm) := by
    unfold f_M_seven_48 f_M_seven_73
    rw [L_good h, zb_s, if_pos (by decide), if_neg (by decide), if_pos (by unfold r32; omega), if_pos hp.2]
  rw [f_M_seven_8, if_pos (by unfold r32; omega)]
  by_cases z : 4 ≤ k
  · rw [if_pos z, e]
  · rw [if_neg z, L_good h, zb_s, if_pos (by decide), if_neg (by decide), if_pos (by unfold r32; omega), if_pos hp.2, e]
def DLo (o a : Int) (F : zF) (B : zB) (Fm : zF) (Bm : zB) : Int → zF → zB → Int → zF → zB → Prop := fun r F' B' r' Fm' Bm' => B' = B ∧ Bm' = Bm ∧ tkF o F F' ∧ tkG Fm Fm' ∧ (0 ≤ r ∧ r < 268435456) ∧ (0 ≤ r' ∧ r' < 268435456) ∧ ((∃ a', a < a' ∧ RG o a' F' Fm' ∧ 0 ≤ F' 8 o 6 ∧ r' = r) ∨ (RX o F' Fm' ∧ F' 8 o 6 ≤ F' 0 0 1))
theorem P_dl {K : zK} {Km : Nat} {o : Int} (h0 : 2 ≤ K.2 0) (ho : 0 ≤ o ∧ o < K.2 8) : ∀ (d k m1 m2 : Nat) (a v p : Int) (F : zF) (B : zB) (Fm : zF) (Bm : zB), k + d = 4 → d < m1 → d + 1 < m2 → (0 ≤ v ∧ v < 128 ^ k) → (128 ≤ p ∧ p < 256) → k ≤ a → RO o F B Fm Bm → RG o a F Fm → 0 ≤ F 8 o 6 → zP (f_SoundFile_takeDelta_4 K m1 k v o F B) (f_M_seven_8 Km m2 k p v Fm Bm) (DLo o a F B Fm Bm) := by
  intro d
  induction d with
  | zero =>
    intro k m1 m2 a v p F B Fm Bm e l1 l2 hv hp ka hO hG h6
    obtain ⟨x, rfl⟩ : ∃ x, m1 = x + 1 := ⟨m1 - 1, (by first | decide | omega)⟩
    obtain ⟨y, rfl⟩ : ∃ y, m2 = y + 1 := ⟨m2 - 1, (by first | decide | omega)⟩
    have e4 : k = 4 := by omega
    subst e4
    have n3 := hO.2.1
    have gx := RX_n (c := 1) (z := a - 1) hG h6 (by first | decide | omega) (by first | decide | omega) (by have := hG.2.2.1; omega)
    rw [f_SoundFile_takeDelta_4, f_M_seven_8, if_pos (by unfold r32; omega), if_pos (by first | decide | omega), if_pos ho, C_ref ho hG.1, zb_s, if_pos (by unfold r32; omega), if_pos (by first | decide | omega)]
    unfold f_M_seven_48 f_M_seven_73
    rw [L_good hG.2.1, zb_s, if_pos (show r32 1 by decide), if_neg (show ¬ (1 : Int) = 0 by decide), if_pos (show r32 p by unfold r32; omega), if_neg (show ¬ p < 128 by omega), L_fb hG.2.1, zb_s, hG.2.2.1.1, hG.2.2.1.2.1]
    have v4 : v < 268435456 := hv.2
    refine P_some ⟨rfl, rfl, fun c y k n => by rw [zup3_v, if_neg (by first | decide | omega)], fun c y k n => by rw [zup3_v, if_neg (by first | decide | omega), zup3_v, if_neg (by first | decide | omega)], (by first | decide | omega), ⟨hv.1, v4⟩, Or.inr ⟨gx, ?_⟩⟩
    rw [zup3_v, if_neg (by first | decide | omega), zup3_v, if_neg (by first | decide | omega)]
    have := hG.2.2.2.2.2.1
    omega
  | succ d ih =>
    intro k m1 m2 a v p F B Fm Bm e l1 l2 hv hp ka hO hG h6
    obtain ⟨x, rfl⟩ : ∃ x, m1 = x + 1 := ⟨m1 - 1, (by first | decide | omega)⟩
    obtain ⟨y, rfl⟩ : ∃ y, m2 = y + 1 + 1 := ⟨m2 - 2, (by first | decide | omega)⟩
    have hp' : (128 : Int) ^ (k + 1) = 128 ^ k * 128 := Int.pow_succ 128 k
    have b4 : (128 : Int) ^ (k + 1) ≤ 268435456 := by
      have : k = 0 ∨ k = 1 ∨ k = 2 ∨ k = 3 := by omega
      rcases this with rfl | rfl | rfl | rfl <;> decide
    rw [f_SoundFile_takeDelta_4, f_M_seven_8, if_pos (show r32 (k : Int) by unfold r32; omega), if_neg (show ¬ 4 ≤ (k : Int) by omega), if_pos ho, if_pos (show r32 (k : Int) by unfold r32; omega), if_neg (show ¬ 4 ≤ (k : Int) by omega), L_good hG.2.1, zb_s, if_pos (show r32 1 by decide), if_neg (show ¬ (1 : Int) = 0 by decide), if_pos (show r32 p by unfold r32; omega), if_neg (show ¬ p < 128 by omega)]
    refine P_bind (P_tk (Km := Km) h0 ho hO (Or.inl ⟨hG, h6⟩)) (fun r F1 B1 r' G1 D1 w => ?_)
    obtain ⟨rfl, rfl, y3, y4, y5, y6, y7, y8⟩ := w
    have hO1 := RO_t hO y3 y4
    have rm := rm128 y5.1 y5.2
    have rm' := rm128 y6.1 y6.2
    rw [if_pos (show r32 r by unfold r32; omega), rm.1, rm'.2, zor7s hv.1 (by first | decide | omega) (by first | decide | omega) (by first | decide | omega), show (k : Int) + 1 = ((k + 1 : Nat) : Int) by omega]
    rcases y7 with ⟨g, g6⟩ | ⟨xx, x6⟩
    · obtain ⟨z1, z2, z3⟩ := y8 g.2.1
      rw [z2]
      by_cases z : 128 ≤ r
      · rw [if_pos z]
        obtain ⟨s, F2, B2, s', G2, D2, e1, e2, w1, w2, w3, w4, w5, w6, w7⟩ := ih (k + 1) x (y + 1) (a + 1) (v * 128 + r % 128) r F1 B1 G1 D1 (by first | decide | omega) (by first | decide | omega) (by first | decide | omega) (by first | decide | omega) (by first | decide | omega) (by first | decide | omega) hO1 g g6
        refine ⟨s, F2, B2, s', G2, D2, e1, e2, w1, w2, tkF_t y3 w3, tkG_t y4 w4, w5, w6, ?_⟩
        rcases w7 with ⟨a', q1, q2⟩ | q
        · exact Or.inl ⟨a', (by first | decide | omega), q2⟩
        · exact Or.inr q
      · rw [if_neg z, L_8g (by first | decide | omega) (by first | decide | omega) g.2.1]
        exact P_some ⟨rfl, rfl, y3, y4, (by first | decide | omega), (by first | decide | omega), Or.inl ⟨a + 1, (by first | decide | omega), g, g6, rfl⟩⟩
    · rw [L_8X (by first | decide | omega) xx]
      by_cases z : 128 ≤ r
      · rw [if_pos z]
        obtain ⟨s, F2, w1, w2, w3, w4, w5⟩ := C_dlX h0 ho d (k + 1) x (v * 128 + r % 128) F1 (by first | decide | omega) (by first | decide | omega) (by first | decide | omega) hO1 xx x6
        rw [w1]
        exact P_some ⟨rfl, rfl, tkF_t y3 w2, y4, w3, (by first | decide | omega), Or.inr ⟨w4, w5⟩⟩
      · rw [if_neg z]
        exact P_some ⟨rfl, rfl, y3, y4, (by first | decide | omega), (by first | decide | omega), Or.inr ⟨xx, x6⟩⟩
end
