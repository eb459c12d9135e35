section
/-! ===== a file opened: one byte taken, both sides ===== -/
/-- what stands fast while bytes are taken -/
def RO (o : Int) (F : zF) (B : zB) (Fm : zF) (Bm : zB) : Prop := F 8 o 4 = 0 ∧ (F 0 0 1 = Fm 14 0 3 ∧ 0 ≤ F 0 0 1 ∧ F 0 0 1 ≤ 3000) ∧ (∀ y, 0 ≤ B 0 0 0 y ∧ B 0 0 0 y < 256) ∧ tmB Bm = B 0 0 0
/-- no fault yet, both at byte a; the class's end is the nearer of the reference's two -/
def RG (o a : Int) (F : zF) (Fm : zF) : Prop := F 8 o 7 = 0 ∧ Fm 14 0 17 = 0 ∧ (F 8 o 5 = a ∧ Fm 14 0 89 = a ∧ 0 ≤ a ∧ a ≤ 3000) ∧ (0 ≤ Fm 14 0 90 ∧ Fm 14 0 90 ≤ 1099511627776) ∧ (F 8 o 6 ≤ Fm 14 0 90 ∧ F 8 o 6 ≤ Fm 14 0 3 ∧ (F 8 o 6 = Fm 14 0 90 ∨ F 8 o 6 = Fm 14 0 3) ∧ a ≤ F 8 o 6)
theorem C_ref {K : zK} {o c z : Int} {F : zF} {B : zB} (ho : 0 ≤ o ∧ o < K.2 8) (h7 : F 8 o 7 = 0) : f_SoundFile_refuse K o c z F B = some (0, zup3 F 8 o 7 (c + 16 * z), B) := by
  unfold f_SoundFile_refuse f_SoundFile_refuse_17
  rw [if_pos ho, h7, if_pos (by decide), if_pos rfl]
theorem L_fb {Km : Nat} {c z : Int} {F : zF} {B : zB} (h7 : F 14 0 17 = 0) : f_M_failByte Km c z F B = some (0, zup3 (zup3 F 14 0 17 c) 14 0 18 z, B) := by
  unfold f_M_failByte
  rw [h7, if_pos (by decide), if_pos (by decide)]
theorem zcmp_o {a b : Int} : 0 ≤ zcmp a b ↔ b ≤ a := by
  unfold zcmp
  split
  · exact ⟨fun z => by omega, fun z => by omega⟩
  · split
    · exact ⟨fun z => by omega, fun z => by omega⟩
    · exact ⟨fun z => by omega, fun z => by omega⟩
theorem P_take {K : zK} {Km : Nat} {o a : Int} {F : zF} {B : zB} {Fm : zF} {Bm : zB} (h0 : 2 ≤ K.2 0) (ho : 0 ≤ o ∧ o < K.2 8) (hO : RO o F B Fm Bm) (hG : RG o a F Fm) : zP (f_SoundFile_take K o F B) (f_M_next Km Fm Bm) (fun r F' B' r' Fm' Bm' => B' = B ∧ Bm' = Bm ∧ r' = r ∧ ((r = B 0 0 0 a ∧ a < F 8 o 6 ∧ F' = zup3 F 8 o 5 (a + 1) ∧ Fm' = zup3 Fm 14 0 89 (a + 1)) ∨ (r = 0 ∧ F 8 o 6 ≤ a ∧ F' = zup3 F 8 o 7 (2 + 16 * F 8 o 6) ∧ Fm' = zup3 (zup3 Fm 14 0 17 2) 14 0 18 (F 8 o 6)))) := by
  obtain ⟨o4, ⟨n1, n2, n3⟩, o5, o6⟩ := hO
  obtain ⟨g7, g17, ⟨a1, a2, a3, a4⟩, ⟨l1, l2⟩, ⟨m1, m2, m3⟩⟩ := hG
  unfold f_SoundFile_take f_M_next
  rw [if_pos ho, a1, if_pos (by unfold r32; omega), if_pos (by unfold r32; omega), L_good g17, zb_s, if_pos (show r32 1 by decide), if_neg (show ¬ (1 : Int) = 0 by decide), a2, if_pos (show r32 a by unfold r32; omega), if_pos (show r64 a by unfold r64; omega), if_pos (show r64 (Fm 14 0 90) by unfold r64; omega)]
  by_cases z : F 8 o 6 ≤ a
  · rw [if_pos z]
    unfold f_SoundFile_take_18
    rw [if_pos ho, C_ref ho g7, zb_s]
    have e : f_M_next_33 Km Fm Bm = some (0, zup3 (zup3 Fm 14 0 17 2) 14 0 18 (F 8 o 6), Bm) := by
      unfold f_M_next_33 f_M_next_60
      rw [if_pos (by unfold r32; omega), if_pos (by unfold r64; omega), if_pos (by unfold r64; omega)]
      by_cases y : Fm 14 0 3 ≤ Fm 14 0 90
      · rw [if_pos (zcmp_o.mpr y), if_pos (by unfold r32; omega), L_fb g17, zb_s, show Fm 14 0 3 = F 8 o 6 by omega]
      · rw [if_neg (fun x => y (zcmp_o.mp x)), if_pos (by unfold r32; omega), L_fb g17, zb_s, show Fm 14 0 90 = F 8 o 6 by omega]
    by_cases y : Fm 14 0 90 ≤ a
    · rw [if_pos (zcmp_o.mpr y), e]
      exact P_some ⟨rfl, rfl, rfl, Or.inr ⟨rfl, z, rfl, rfl⟩⟩
    · rw [if_neg (fun x => y (zcmp_o.mp x)), if_pos (by unfold r32; omega), if_neg (by omega), e]
      exact P_some ⟨rfl, rfl, rfl, Or.inr ⟨rfl, z, rfl, rfl⟩⟩
  · rw [if_neg z, o4, if_neg (by decide), if_pos (by omega), if_neg (fun x => by have := zcmp_o.mp x; omega), if_pos (show r32 (Fm 14 0 3) by unfold r32; omega), if_pos (show a < Fm 14 0 3 by omega), show a + 1 - 1 = a by omega, L_byteA a3 (by omega), zb_s, o6]
    rw [C_at0 (by omega) a3 (by rw [zup3_v, if_neg (by omega)]; omega) (by rw [zup3_v, if_neg (by omega)]; omega), zb_s]
    exact P_some ⟨rfl, rfl, rfl, Or.inl ⟨rfl, by omega, rfl, rfl⟩⟩
end
