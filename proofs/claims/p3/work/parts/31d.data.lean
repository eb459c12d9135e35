section
/-! ===== a byte below 128 taken ===== -/
theorem C_refX {K : zK} {o c z : Int} {F : zF} {B : zB} {Fm : zF} (ho : 0 ≤ o ∧ o < K.2 8) (h : RX o F Fm) : f_SoundFile_refuse K o c z F B = some (0, F, B) := by
  obtain ⟨x7, x17, x18, _⟩ := h
  unfold f_SoundFile_refuse f_SoundFile_refuse_17
  rw [if_pos ho, if_pos (by unfold r32; omega), if_neg (by omega)]
theorem L_goodX {Km : Nat} {o : Int} {F : zF} {Fm : zF} {Bm : zB} (h : RX o F Fm) : f_M_good Km Fm Bm = some (0, Fm, Bm) := by
  obtain ⟨x7, x17, _⟩ := h
  unfold f_M_good f_M_good_12
  rw [if_pos (by unfold r32; omega), if_neg (by omega), if_pos (by decide)]
/-- a fault told at the same place on both sides -/
theorem RX_n {o a c z : Int} {F : zF} {Fm : zF} (h : RG o a F Fm) (h6 : 0 ≤ F 8 o 6) (n3 : Fm 14 0 3 ≤ 3000) (hc : 1 ≤ c ∧ c ≤ 3) (hz : 0 ≤ z ∧ z ≤ 3000) : RX o (zup3 F 8 o 7 (c + 16 * z)) (zup3 (zup3 Fm 14 0 17 c) 14 0 18 z) := by
  obtain ⟨g7, g17, ⟨a1, a2, a3, a4⟩, ⟨l1, l2⟩, ⟨m1, m2, m3⟩⟩ := h
  unfold RX
  simp only [zup3_v]
  simp
  omega
theorem P_data {K : zK} {Km : Nat} {o a : Int} {F : zF} {B : zB} {Fm : zF} {Bm : zB} (h0 : 2 ≤ K.2 0) (ho : 0 ≤ o ∧ o < K.2 8) (a0 : 0 ≤ a) (hO : RO o F B Fm Bm) (hQ : RQo o a F Fm) : zP (f_SoundFile_takeData K o F B) (f_M_below Km Fm Bm) (fun r F' B' r' Fm' Bm' => B' = B ∧ Bm' = Bm ∧ tkF o F F' ∧ tkG Fm Fm' ∧ (0 ≤ r ∧ r < 256) ∧ (0 ≤ r' ∧ r' < 256) ∧ RQo o (a + 1) F' Fm' ∧ (Fm' 14 0 17 = 0 → Fm 14 0 17 = 0 ∧ r' = r ∧ r < 128)) := by
  unfold f_SoundFile_takeData f_M_below f_SoundFile_takeData_23 f_M_below_30
  rw [if_pos ho]
  refine P_bind (P_tk (Km := Km) h0 ho hO hQ) (fun r F1 B1 r' G1 D1 y => ?_)
  obtain ⟨rfl, rfl, y3, y4, y5, y6, y7, y8⟩ := y
  have hO1 := RO_t hO y3 y4
  have n3 := hO1.2.1
  rw [if_pos (show r32 r by unfold r32; omega)]
  rcases y7 with ⟨g, g6⟩ | ⟨x, x6⟩
  · obtain ⟨z1, z2, z3⟩ := y8 g.2.1
    rw [L_good g.2.1, zb_s, if_pos (show r32 1 by decide), if_neg (show ¬ (1 : Int) = 0 by decide), z2, if_pos (show r32 r by unfold r32; omega)]
    by_cases z : r < 128
    · rw [if_pos z, if_pos z]
      exact P_some ⟨rfl, rfl, y3, y4, y5, y5, Or.inl ⟨g, g6⟩, fun _ => ⟨z1, rfl, z⟩⟩
    · rw [if_neg z, if_neg z, C_ref ho g.1, L_fb g.2.1, zb_s, zb_s, g.2.2.1.1, g.2.2.1.2.1]
      have gx := RX_n (c := 1) (z := a + 1 - 1) g g6 (by omega) (by omega) (by have := g.2.2.1; omega)
      refine P_some ⟨rfl, rfl, tkF_t y3 (fun c y k n => by rw [zup3_v, if_neg (by omega)]), tkG_t y4 (fun c y k n => by rw [zup3_v, if_neg (by omega), zup3_v, if_neg (by omega)]), y5, y5, Or.inr ⟨gx, ?_⟩, fun q => ?_⟩
      · rw [zup3_v, if_neg (by omega), zup3_v, if_neg (by omega)]
        have := g.2.2.2.2.2.1
        omega
      · have := gx.2.1.1; omega
  · rw [L_goodX x, zb_s, if_pos (show r32 0 by decide), if_pos rfl]
    have q : ∀ (q : G1 14 0 17 = 0), Fm 14 0 17 = 0 ∧ r' = r ∧ r < 128 := fun q => by have := x.2.1.1; omega
    by_cases z : r < 128
    · rw [if_pos z]
      exact P_some ⟨rfl, rfl, y3, y4, y5, y6, Or.inr ⟨x, x6⟩, q⟩
    · rw [if_neg z, C_refX ho x, zb_s]
      exact P_some ⟨rfl, rfl, y3, y4, y5, y6, Or.inr ⟨x, x6⟩, q⟩
end
