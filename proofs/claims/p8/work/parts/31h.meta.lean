section
/-! ===== what a file tells of itself ===== -/
theorem zor_n {x y z : Nat} (h : x ||| y = z) (hx : x < 2147483648) (hy : y < 2147483648) (hz : z < 2147483648) : zor (x : Int) (y : Int) = (z : Int) := by
  have k1 : (BitVec.ofInt 32 (x : Int)).toNat = x := by
    rw [BitVec.toNat_ofInt]
    show ((x : Int) % 4294967296).toNat = x
    omega
  have k2 : (BitVec.ofInt 32 (y : Int)).toNat = y := by
    rw [BitVec.toNat_ofInt]
    show ((y : Int) % 4294967296).toNat = y
    omega
  have e : (BitVec.ofInt 32 (x : Int) ||| BitVec.ofInt 32 (y : Int)).toNat = z := by
    rw [BitVec.toNat_or, k1, k2, h]
  show (BitVec.ofInt 32 (x : Int) ||| BitVec.ofInt 32 (y : Int)).toInt = _
  rw [BitVec.toInt_eq_toNat_of_lt (by rw [e]; omega), e]
theorem zshl_16 {n : Nat} (h : n < 256) : zshl (n : Int) 16 = ((n * 65536 : Nat) : Int) := by
  have k1 : (BitVec.ofInt 32 (n : Int)).toNat = n := by
    rw [BitVec.toNat_ofInt]
    show ((n : Int) % 4294967296).toNat = n
    omega
  have e0 : (BitVec.ofInt 32 (n : Int) <<< (16 : Nat)).toNat = n * 65536 := by
    rw [BitVec.toNat_shiftLeft, k1, Nat.shiftLeft_eq]
    show n * 65536 % 4294967296 = n * 65536
    omega
  show (BitVec.ofInt 32 (n : Int) <<< (16 : Nat)).toInt = _
  rw [BitVec.toInt_eq_toNat_of_lt (by rw [e0]; omega), e0]
theorem zshl_8 {n : Nat} (h : n < 256) : zshl (n : Int) 8 = ((n * 256 : Nat) : Int) := by
  have k1 : (BitVec.ofInt 32 (n : Int)).toNat = n := by
    rw [BitVec.toNat_ofInt]
    show ((n : Int) % 4294967296).toNat = n
    omega
  have e0 : (BitVec.ofInt 32 (n : Int) <<< (8 : Nat)).toNat = n * 256 := by
    rw [BitVec.toNat_shiftLeft, k1, Nat.shiftLeft_eq]
    show n * 256 % 4294967296 = n * 256
    omega
  show (BitVec.ofInt 32 (n : Int) <<< (8 : Nat)).toInt = _
  rw [BitVec.toInt_eq_toNat_of_lt (by rw [e0]; omega), e0]
theorem zor3 {a b c : Int} (ha : 0 ≤ a ∧ a < 256) (hb : 0 ≤ b ∧ b < 256) (hc : 0 ≤ c ∧ c < 256) : zor (zor (zshl a 16) (zshl b 8)) c = 65536 * a + 256 * b + c := by
  obtain ⟨x, rfl⟩ := Int.eq_ofNat_of_zero_le ha.1
  obtain ⟨y, rfl⟩ := Int.eq_ofNat_of_zero_le hb.1
  obtain ⟨w, rfl⟩ := Int.eq_ofNat_of_zero_le hc.1
  have h1 := Nat.shiftLeft_add_eq_or_of_lt (a := x) (b := y * 256) (i := 16) (by first | decide | omega)
  have h2 := Nat.shiftLeft_add_eq_or_of_lt (a := x * 256 + y) (b := w) (i := 8) (by first | decide | omega)
  rw [Nat.shiftLeft_eq] at h1 h2
  rw [zshl_16 (by first | decide | omega), zshl_8 (by first | decide | omega), zor_n (z := x * 65536 + y * 256) h1.symm (by first | decide | omega) (by first | decide | omega) (by first | decide | omega), show ((x * 65536 + y * 256 : Nat) : Int) = (((x * 256 + y) * 2 ^ 8 : Nat) : Int) by omega, zor_n (z := (x * 256 + y) * 2 ^ 8 + w) h2.symm (by first | decide | omega) (by first | decide | omega) (by first | decide | omega)]
  omega
theorem key_f : ∀ x : Fin 256, (zabs (zi2b (x.val : Int)) ≤ 7 ↔ (x.val : Int) ≤ 7 ∨ 249 ≤ (x.val : Int)) ∧ ((x.val : Int) ≤ 7 → zi2b (x.val : Int) = x.val) ∧ (249 ≤ (x.val : Int) → zi2b (x.val : Int) = (x.val : Int) - 256) ∧ (-128 ≤ zi2b (x.val : Int) ∧ zi2b (x.val : Int) ≤ 127) := by decide +kernel
theorem key_e {x : Int} (h0 : 0 ≤ x) (h1 : x < 256) : (zabs (zi2b x) ≤ 7 ↔ x ≤ 7 ∨ 249 ≤ x) ∧ (x ≤ 7 → zi2b x = x) ∧ (249 ≤ x → zi2b x = x - 256) ∧ (-128 ≤ zi2b x ∧ zi2b x ≤ 127) := by
  have := key_f ⟨x.toNat, (by first | decide | omega)⟩
  rwa [show (((⟨x.toNat, (by first | decide | omega)⟩ : Fin 256).val : Nat) : Int) = x by show ((x.toNat : Nat) : Int) = x; omega] at this
/-- the heads told so far, alike -/
def HD (o : Int) (F : zF) (B : zB) (Fm : zF) (Bm : zB) : Prop := (B 8 o 0 2 = Bm 14 0 74 2 ∧ -7 ≤ Bm 14 0 74 2 ∧ Bm 14 0 74 2 ≤ 7) ∧ (B 8 o 0 3 = Bm 14 0 74 3 ∧ 0 ≤ Bm 14 0 74 3 ∧ Bm 14 0 74 3 ≤ 1) ∧ (B 8 o 0 4 = Bm 14 0 74 4 ∧ 1 ≤ Bm 14 0 74 4 ∧ Bm 14 0 74 4 ≤ 12) ∧ (B 8 o 0 5 = Bm 14 0 74 5 ∧ (Bm 14 0 74 5 = 2 ∨ Bm 14 0 74 5 = 4 ∨ Bm 14 0 74 5 = 8 ∨ Bm 14 0 74 5 = 16)) ∧ (B 8 o 0 6 = Bm 14 0 74 6 ∧ 20 ≤ Bm 14 0 74 6 ∧ Bm 14 0 74 6 ≤ 300) ∧ (F 8 o 12 = Fm 14 0 92 ∧ 0 ≤ Fm 14 0 92 ∧ Fm 14 0 92 ≤ 1) ∧ (F 8 o 13 = Fm 14 0 91 ∧ 0 ≤ Fm 14 0 91 ∧ Fm 14 0 91 ≤ 1) ∧ (F 8 o 14 = Fm 14 0 93 ∧ 0 ≤ Fm 14 0 93 ∧ Fm 14 0 93 ≤ 1) ∧ (B 8 o 0 0 = Bm 14 0 74 0 ∧ 1 ≤ Bm 14 0 74 0 ∧ Bm 14 0 74 0 ≤ 8) ∧ (B 8 o 0 1 = Bm 14 0 74 1 ∧ 1 ≤ Bm 14 0 74 1 ∧ Bm 14 0 74 1 ≤ 960)
theorem RG_f {o a : Int} {F Fm F' Fm' : zF} (h : RG o a F Fm) (e5 : F' 8 o 5 = F 8 o 5) (e6 : F' 8 o 6 = F 8 o 6) (e7 : F' 8 o 7 = F 8 o 7) (m17 : Fm' 14 0 17 = Fm 14 0 17) (m89 : Fm' 14 0 89 = Fm 14 0 89) (m90 : Fm' 14 0 90 = Fm 14 0 90) (m3 : Fm' 14 0 3 = Fm 14 0 3) : RG o a F' Fm' := by
  unfold RG at *
  rw [e5, e6, e7, m17, m89, m90, m3]
  exact h
theorem RX_f {o : Int} {F Fm F' Fm' : zF} (h : RX o F Fm) (e5 : F' 8 o 5 = F 8 o 5) (e6 : F' 8 o 6 = F 8 o 6) (e7 : F' 8 o 7 = F 8 o 7) (m17 : Fm' 14 0 17 = Fm 14 0 17) (m18 : Fm' 14 0 18 = Fm 14 0 18) (m89 : Fm' 14 0 89 = Fm 14 0 89) : RX o F' Fm' := by
  unfold RX at *
  rw [e5, e6, e7, m17, m18, m89]
  exact h
def mtF (o : Int) (F F' : zF) : Prop := ∀ c y k, ¬ (c = 8 ∧ y = o ∧ (k = 5 ∨ k = 7 ∨ (11 ≤ k ∧ k ≤ 14))) → F' c y k = F c y k
def mtB (o : Int) (B B' : zB) : Prop := ∀ c y k x, ¬ (c = 8 ∧ y = o ∧ k = 0 ∧ 2 ≤ x ∧ x ≤ 6) → B' c y k x = B c y k x
def mtG (F F' : zF) : Prop := ∀ c y k, ¬ (c = 14 ∧ y = 0 ∧ (k = 17 ∨ k = 18 ∨ k = 89 ∨ (91 ≤ k ∧ k ≤ 93))) → F' c y k = F c y k
def mtH (B B' : zB) : Prop := ∀ c y k x, ¬ (c = 14 ∧ y = 0 ∧ k = 74 ∧ 2 ≤ x ∧ x ≤ 6) → B' c y k x = B c y k x
theorem C_atF {K : zK} {l : Int} {F : zF} {B : zB} (hK0 : 0 < K.2 0) (h0 : 0 ≤ l ∧ l ≤ 4000) (h2 : 0 ≤ F 0 0 1 ∧ F 0 0 1 ≤ 3000) : f_ByteRow_at K 0 l F B = some (if l < F 0 0 1 then B 0 0 0 l else -1, F, B) := by
  by_cases z : l < F 0 0 1
  · rw [if_pos z]; exact C_at0 hK0 h0.1 z h2.2
  · unfold f_ByteRow_at f_ByteRow_at_12 f_ByteRow_at_22
    rw [if_pos (by unfold r32; omega), if_neg (by first | decide | omega), if_pos (by first | decide | omega), if_pos (by unfold r32; omega), if_neg z, if_neg z]
theorem C_tt {K : zK} {o x y : Int} {F : zF} {B : zB} (ho : 0 ≤ o ∧ o < K.2 8) (c : F 8 o 13 = 0 ∧ (1 ≤ x ∧ x ≤ 12) ∧ (1 ≤ y ∧ y ≤ 4)) : f_SoundFile_tellTime K o x y F B = some (0, zup3 F 8 o 13 1, zup4 (zup4 B 8 o 0 4 x) 8 o 0 5 (zshl 1 y)) := by
  obtain ⟨c1, c2, c3⟩ := c
  unfold f_SoundFile_tellTime f_SoundFile_tellTime_49
  rw [if_pos ho, c1, if_pos (by decide), if_pos rfl, if_pos (by unfold r32; omega), if_neg (by first | decide | omega), if_neg (by first | decide | omega), if_pos (by unfold r32; omega), if_neg (by first | decide | omega), if_neg (by first | decide | omega)]
theorem C_ttN {K : zK} {o x y : Int} {F : zF} {B : zB} (ho : 0 ≤ o ∧ o < K.2 8) (h : 0 ≤ F 8 o 13 ∧ F 8 o 13 ≤ 1) (hx : 0 ≤ x ∧ x < 256) (hy : 0 ≤ y ∧ y < 256) (c : ¬ (F 8 o 13 = 0 ∧ (1 ≤ x ∧ x ≤ 12) ∧ (1 ≤ y ∧ y ≤ 4))) : f_SoundFile_tellTime K o x y F B = some (0, F, B) := by
  unfold f_SoundFile_tellTime f_SoundFile_tellTime_49
  rw [if_pos ho, if_pos (by unfold r32; omega)]
  by_cases z : F 8 o 13 = 0
  · rw [if_pos z, if_pos (by unfold r32; omega)]
    by_cases z1 : x < 1
    · rw [if_pos z1]
    · rw [if_neg z1]
      by_cases z2 : 12 < x
      · rw [if_pos z2]
      · rw [if_neg z2, if_pos (by unfold r32; omega)]
        by_cases z3 : y < 1
        · rw [if_pos z3]
        · rw [if_neg z3, if_pos (by first | decide | omega)]
  · rw [if_neg z]
theorem L_226 {Km : Nat} {l5 l4 l3 n w : Int} {F : zF} {B : zB} (hw : r32 w) (hn : r32 n) (h1 : ¬ (w = 81 ∧ n = 3)) : f_M_meta_226 Km l5 l4 l3 n w F B = f_M_meta_324 Km w F B := by
  unfold f_M_meta_226
  rw [if_pos hw]
  by_cases z : w = 81
  · rw [if_pos z, if_pos hn, if_neg (fun y => h1 ⟨z, y⟩)]
  · rw [if_neg z]
theorem L_150 {Km : Nat} {l5 l4 l3 n w : Int} {F : zF} {B : zB} (hw : r32 w) (hn : r32 n) (h9 : ¬ (w = 89 ∧ 2 ≤ n)) : f_M_meta_150 Km l5 l4 l3 n w F B = f_M_meta_226 Km l5 l4 l3 n w F B := by
  unfold f_M_meta_150
  rw [if_pos hw]
  by_cases z : w = 89
  · rw [if_pos z, if_pos hn, if_pos (by first | decide | omega)]
  · rw [if_neg z]
theorem L_82 {Km : Nat} {l4 l3 n w s : Int} {F : zF} {B : zB} (hw : r32 w) (hn : r32 n) (h8 : ¬ (w = 88 ∧ 4 ≤ n)) : f_M_meta_82 Km l4 l3 n w s F B = f_M_meta_150 Km s l4 l3 n w F B := by
  unfold f_M_meta_82
  rw [if_pos hw]
  by_cases z : w = 88
  · rw [if_pos z, if_pos hn, if_pos (by first | decide | omega)]
  · rw [if_neg z]
theorem C_80 {K : zK} {l5 l4 l3 n w o : Int} {F : zF} {B : zB} (hw : r32 w) (hn : r32 n) (h9 : ¬ (w = 89 ∧ 2 ≤ n)) : f_SoundFile_loadMeta_80 K l5 l4 l3 n w o F B = f_SoundFile_loadMeta_103 K l5 l4 l3 n w o F B := by
  unfold f_SoundFile_loadMeta_80
  rw [if_pos hw]
  by_cases z : w = 89
  · rw [if_pos z, if_pos hn, if_pos (by first | decide | omega)]
  · rw [if_neg z]
theorem C_103 {K : zK} {l5 l4 l3 n w o : Int} {F : zF} {B : zB} (hw : r32 w) (hn : r32 n) (h1 : ¬ (w = 81 ∧ n = 3)) : f_SoundFile_loadMeta_103 K l5 l4 l3 n w o F B = f_SoundFile_loadMeta_141 K w o F B := by
  unfold f_SoundFile_loadMeta_103
  rw [if_pos hw]
  by_cases z : w = 81
  · rw [if_pos z, if_pos hn, if_neg (fun y => h1 ⟨z, y⟩)]
  · rw [if_neg z]
/-- the end of it: was it the track's end? -/
theorem P_141 {K : zK} {Km : Nat} {o w : Int} {F : zF} {B : zB} {Fm : zF} {Bm : zB} {Q : Int → zF → zB → Int → zF → zB → Prop} (ho : 0 ≤ o ∧ o < K.2 8) (hw : r32 w) (h : ∀ v, v = 0 ∨ v = 1 → Q 0 (zup3 F 8 o 11 v) B v Fm Bm) : zP (f_SoundFile_loadMeta_141 K w o F B) (f_M_meta_324 Km w Fm Bm) Q := by
  unfold f_SoundFile_loadMeta_141 f_M_meta_324 f_SoundFile_loadMeta_153 f_M_meta_335
  rw [if_pos hw, if_pos hw]
  by_cases z : w = 47
  · rw [if_pos z, if_pos z, if_pos ho, if_pos ho, if_pos (by first | decide | omega), if_pos (by first | decide | omega)]
    exact P_some (h 1 (Or.inr rfl))
  · rw [if_neg z, if_neg z, if_pos ho, if_pos ho, if_pos (by first | decide | omega), if_pos (by first | decide | omega)]
    exact P_some (h 0 (Or.inl rfl))
end
