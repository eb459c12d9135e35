section
/-! ===== bytes taken, with or without a fault ===== -/
/-- a fault told alike; the class may go on taking bytes -/
def RX (o : Int) (F : zF) (Fm : zF) : Prop := F 8 o 7 = Fm 14 0 17 + 16 * Fm 14 0 18 ∧ (1 ≤ Fm 14 0 17 ∧ Fm 14 0 17 ≤ 3) ∧ (0 ≤ Fm 14 0 18 ∧ Fm 14 0 18 ≤ 3000) ∧ (0 ≤ F 8 o 5 ∧ F 8 o 5 ≤ 3000) ∧ F 8 o 6 ≤ 3000 ∧ -1 ≤ F 8 o 6 ∧ (0 ≤ Fm 14 0 89 ∧ Fm 14 0 89 ≤ 3000)
/-- what taking a byte may change -/
def tkF (o : Int) (F F' : zF) : Prop := ∀ c y k, ¬ (c = 8 ∧ y = o ∧ (k = 5 ∨ k = 7)) → F' c y k = F c y k
def tkG (F F' : zF) : Prop := ∀ c y k, ¬ (c = 14 ∧ y = 0 ∧ (k = 17 ∨ k = 18 ∨ k = 89)) → F' c y k = F c y k
theorem tkF_t {o : Int} {F F1 F2 : zF} (h : tkF o F F1) (h' : tkF o F1 F2) : tkF o F F2 := fun c y k n => by rw [h' c y k n, h c y k n]
theorem tkG_t {F F1 F2 : zF} (h : tkG F F1) (h' : tkG F1 F2) : tkG F F2 := fun c y k n => by rw [h' c y k n, h c y k n]
theorem RO_t {o : Int} {F F' : zF} {B : zB} {Fm Fm' : zF} {Bm : zB} (h : RO o F B Fm Bm) (f : tkF o F F') (g : tkG Fm Fm') : RO o F' B Fm' Bm := by
  unfold RO at *
  rw [f 8 o 4 (by omega), f 0 0 1 (by omega), g 14 0 3 (by omega)]
  exact h
/-- a byte taken: further on and alike, or a fault -/
def TO (o a : Int) (F : zF) (B : zB) (Fm : zF) (Bm : zB) : Int → zF → zB → Int → zF → zB → Prop := fun r F' B' r' Fm' Bm' => B' = B ∧ Bm' = Bm ∧ tkF o F F' ∧ tkG Fm Fm' ∧ (0 ≤ r ∧ r < 256) ∧ (0 ≤ r' ∧ r' < 256) ∧ ((r' = r ∧ a + 1 ≤ F 8 o 6 ∧ RG o (a + 1) F' Fm' ∧ F 8 o 7 = 0) ∨ RX o F' Fm')
theorem P_take1 {K : zK} {Km : Nat} {o a : Int} {F : zF} {B : zB} {Fm : zF} {Bm : zB} (h0 : 2 ≤ K.2 0) (ho : 0 ≤ o ∧ o < K.2 8) (hO : RO o F B Fm Bm) (hG : RG o a F Fm) (h6 : 0 ≤ F 8 o 6) : zP (f_SoundFile_take K o F B) (f_M_next Km Fm Bm) (TO o a F B Fm Bm) := by
  obtain ⟨r, F', B', r', Fm', Bm', x1, x2, rfl, rfl, rfl, x3⟩ := P_take (Km := Km) h0 ho hO hG
  obtain ⟨o4, ⟨n1, n2, n3⟩, o5, o6⟩ := hO
  obtain ⟨g7, g17, ⟨a1, a2, a3, a4⟩, ⟨l1, l2⟩, ⟨m1, m2, m3⟩⟩ := hG
  rcases x3 with ⟨e, e6, rfl, rfl⟩ | ⟨e, e6, rfl, rfl⟩
  · have b := o5 a
    refine ⟨_, _, _, _, _, _, x1, x2, rfl, rfl, fun c y k n => by rw [zup3_v, if_neg (by omega)], fun c y k n => by rw [zup3_v, if_neg (by omega)], by omega, by omega, Or.inl ⟨rfl, by omega, ?_, g7⟩⟩
    unfold RG
    simp only [zup3_v]
    simp
    omega
  · refine ⟨_, _, _, _, _, _, x1, x2, rfl, rfl, fun c y k n => by rw [zup3_v, if_neg (by omega)], fun c y k n => by rw [zup3_v, if_neg (by omega), zup3_v, if_neg (by omega)], by omega, by omega, Or.inr ?_⟩
    unfold RX
    simp only [zup3_v]
    simp
    omega
theorem P_takeX {K : zK} {Km : Nat} {o : Int} {F : zF} {B : zB} {Fm : zF} {Bm : zB} (h0 : 2 ≤ K.2 0) (ho : 0 ≤ o ∧ o < K.2 8) (hO : RO o F B Fm Bm) (hX : RX o F Fm) (h6 : F 8 o 6 ≤ F 0 0 1) (a : Int) : zP (f_SoundFile_take K o F B) (f_M_next Km Fm Bm) (TO o a F B Fm Bm) := by
  obtain ⟨o4, ⟨n1, n2, n3⟩, o5, o6⟩ := hO
  have hX' := hX
  obtain ⟨x7, x17, x18, x5, x6, x6'⟩ := hX
  have e : f_M_next Km Fm Bm = some (0, Fm, Bm) := by
    unfold f_M_next f_M_good f_M_good_12
    rw [if_pos (by unfold r32; omega), if_neg (by omega), if_pos (by decide), zb_s, if_pos (by decide), if_pos rfl]
  rw [e]
  unfold f_SoundFile_take
  rw [if_pos ho, if_pos (by unfold r32; omega), if_pos (by unfold r32; omega)]
  by_cases z : F 8 o 6 ≤ F 8 o 5
  · rw [if_pos z]
    unfold f_SoundFile_take_18 f_SoundFile_refuse f_SoundFile_refuse_17
    rw [if_pos ho, if_pos ho, if_pos (by unfold r32; omega), if_neg (by omega), zb_s]
    exact P_some ⟨rfl, rfl, fun _ _ _ _ => rfl, fun _ _ _ _ => rfl, by omega, by omega, Or.inr hX'⟩
  · rw [if_neg z, o4, if_neg (by decide), if_pos (by omega), show F 8 o 5 + 1 - 1 = F 8 o 5 by omega]
    rw [C_at0 (by omega) x5.1 (by rw [zup3_v, if_neg (by omega)]; omega) (by rw [zup3_v, if_neg (by omega)]; omega), zb_s]
    have b := o5 (F 8 o 5)
    refine P_some ⟨rfl, rfl, fun c y k n => by rw [zup3_v, if_neg (by omega)], fun _ _ _ _ => rfl, b, by omega, Or.inr ?_⟩
    unfold RX
    simp only [zup3_v]
    simp
    omega
end
