section
/-! ===== what a file tells of itself, both sides ===== -/
theorem L_82p {Km : Nat} {a n x y : Int} {F : zF} {B : zB} (hn : 4 ≤ n ∧ n < 268435456) (c : F 14 0 91 = 0 ∧ (1 ≤ x ∧ x ≤ 12) ∧ (1 ≤ y ∧ y ≤ 4)) : f_M_meta_82 Km x a n 88 y F B = f_M_meta_150 Km y x a n 88 (zup3 F 14 0 91 1) (zup4 (zup4 B 14 0 74 4 x) 14 0 74 5 (zshl 1 y)) := by
  obtain ⟨c1, c2, c3⟩ := c
  unfold f_M_meta_82
  rw [if_pos (by decide), if_pos rfl, if_pos (by unfold r32; omega), if_neg (by first | decide | omega), c1, if_pos (by decide), if_pos rfl, if_pos (by unfold r32; omega), if_neg (by first | decide | omega), if_neg (by first | decide | omega), if_pos (by unfold r32; omega), if_neg (by first | decide | omega), if_neg (by first | decide | omega)]
theorem L_82n {Km : Nat} {a n x y : Int} {F : zF} {B : zB} (hn : 4 ≤ n ∧ n < 268435456) (h : 0 ≤ F 14 0 91 ∧ F 14 0 91 ≤ 1) (hx : 0 ≤ x ∧ x < 256) (hy : 0 ≤ y ∧ y < 256) (c : ¬ (F 14 0 91 = 0 ∧ (1 ≤ x ∧ x ≤ 12) ∧ (1 ≤ y ∧ y ≤ 4))) : f_M_meta_82 Km x a n 88 y F B = f_M_meta_150 Km y x a n 88 F B := by
  unfold f_M_meta_82
  rw [if_pos (by decide), if_pos rfl, if_pos (by unfold r32; omega), if_neg (by first | decide | omega), if_pos (by unfold r32; omega)]
  by_cases z : F 14 0 91 = 0
  · rw [if_pos z, if_pos (by unfold r32; omega)]
    by_cases z1 : x < 1
    · rw [if_pos z1]
    · rw [if_neg z1]
      by_cases z2 : 12 < x
      · rw [if_pos z2]
      · rw [if_neg z2, if_pos (by unfold r32; omega)]
        by_cases z3 : y < 1
        · rw [if_pos z3]
        · rw [if_neg z3, if_pos (by first | decide | omega)]
  · rw [if_neg z]
theorem C_tk {K : zK} {o x y : Int} {F : zF} {B : zB} (ho : 0 ≤ o ∧ o < K.2 8) (hx : 0 ≤ x ∧ x < 256) (hy : 0 ≤ y ∧ y < 256) (c : F 8 o 12 = 0 ∧ (x ≤ 7 ∨ 249 ≤ x) ∧ y ≤ 1) : f_SoundFile_tellKey K o (zi2b x) y F B = some (0, zup3 F 8 o 12 1, zup4 (zup4 B 8 o 0 2 (zi2b x)) 8 o 0 3 y) := by
  obtain ⟨c1, c2, c3⟩ := c
  obtain ⟨k1, _, _, k4⟩ := key_e hx.1 hx.2
  have k5 : r32 (zabs (zi2b x)) := by unfold zabs r32; split <;> omega
  unfold f_SoundFile_tellKey f_SoundFile_tellKey_40
  rw [if_pos ho, c1, if_pos (by decide), if_pos rfl, if_pos (by unfold r32; omega), if_pos k5, if_neg (by have := k1.mpr c2; omega), if_pos (by unfold r32; omega), if_neg (by first | decide | omega)]
theorem C_tkN {K : zK} {o x y : Int} {F : zF} {B : zB} (ho : 0 ≤ o ∧ o < K.2 8) (h : 0 ≤ F 8 o 12 ∧ F 8 o 12 ≤ 1) (hx : 0 ≤ x ∧ x < 256) (hy : 0 ≤ y ∧ y < 256) (c : ¬ (F 8 o 12 = 0 ∧ (x ≤ 7 ∨ 249 ≤ x) ∧ y ≤ 1)) : f_SoundFile_tellKey K o (zi2b x) y F B = some (0, F, B) := by
  obtain ⟨k1, _, _, k4⟩ := key_e hx.1 hx.2
  have k5 : r32 (zabs (zi2b x)) := by unfold zabs r32; split <;> omega
  unfold f_SoundFile_tellKey f_SoundFile_tellKey_40
  rw [if_pos ho, if_pos (by unfold r32; omega)]
  by_cases z : F 8 o 12 = 0
  · rw [if_pos z, if_pos (by unfold r32; omega), if_pos k5]
    by_cases z1 : 7 < zabs (zi2b x)
    · rw [if_pos z1]
    · rw [if_neg z1, if_pos (by unfold r32; omega), if_pos (by have := k1.mp (by first | decide | omega); omega)]
  · rw [if_neg z]
theorem L_150p {Km : Nat} {a n x y : Int} {F : zF} {B : zB} (hn : 2 ≤ n ∧ n < 268435456) (hx : 0 ≤ x ∧ x < 256) (hy : 0 ≤ y ∧ y < 256) (c : F 14 0 92 = 0 ∧ (x ≤ 7 ∨ 249 ≤ x) ∧ y ≤ 1) : f_M_meta_150 Km y x a n 89 F B = f_M_meta_226 Km y x a n 89 (zup3 F 14 0 92 1) (zup4 (zup4 B 14 0 74 2 (zi2b x)) 14 0 74 3 y) := by
  obtain ⟨c1, c2, c3⟩ := c
  obtain ⟨_, k2, k3, _⟩ := key_e hx.1 hx.2
  have e : f_M_meta_183 Km y x a n 89 F B = f_M_meta_226 Km y x a n 89 (zup3 F 14 0 92 1) (zup4 (zup4 B 14 0 74 2 (zi2b x)) 14 0 74 3 y) := by
    unfold f_M_meta_183 f_M_meta_217
    rw [if_pos (by unfold r32; omega), if_neg (by first | decide | omega), if_pos (by unfold r32; omega)]
    by_cases z : 7 < x
    · rw [if_pos z, if_pos (by decide), k3 (by first | decide | omega)]
    · rw [if_neg z, if_pos (by decide), k2 (by first | decide | omega)]
  unfold f_M_meta_150
  rw [if_pos (by decide), if_pos rfl, if_pos (by unfold r32; omega), if_neg (by first | decide | omega), c1, if_pos (by decide), if_pos rfl, if_pos (by unfold r32; omega)]
  by_cases z : x ≤ 7
  · rw [if_pos z, e]
  · rw [if_neg z, if_neg (by first | decide | omega), e]
theorem L_150n {Km : Nat} {a n x y : Int} {F : zF} {B : zB} (hn : 2 ≤ n ∧ n < 268435456) (h : 0 ≤ F 14 0 92 ∧ F 14 0 92 ≤ 1) (hx : 0 ≤ x ∧ x < 256) (hy : 0 ≤ y ∧ y < 256) (c : ¬ (F 14 0 92 = 0 ∧ (x ≤ 7 ∨ 249 ≤ x) ∧ y ≤ 1)) : f_M_meta_150 Km y x a n 89 F B = f_M_meta_226 Km y x a n 89 F B := by
  unfold f_M_meta_150
  rw [if_pos (by decide), if_pos rfl, if_pos (by unfold r32; omega), if_neg (by first | decide | omega), if_pos (by unfold r32; omega)]
  by_cases z : F 14 0 92 = 0
  · rw [if_pos z, if_pos (by unfold r32; omega)]
    by_cases z1 : x ≤ 7
    · rw [if_pos z1]
      unfold f_M_meta_183
      rw [if_pos (by unfold r32; omega), if_pos (by first | decide | omega)]
    · rw [if_neg z1]
      by_cases z2 : x < 249
      · rw [if_pos z2]
      · rw [if_neg z2]
        unfold f_M_meta_183
        rw [if_pos (by unfold r32; omega), if_pos (by first | decide | omega)]
  · rw [if_neg z]
def tvT (x : Int) : Int := if x < 1 then 300 else zmax 20 (zmin 300 (zdv 60000000 x))
theorem dvT_b {x : Int} (h : 1 ≤ x ∧ x < 16777216) : 0 ≤ zdv 60000000 x ∧ zdv 60000000 x ≤ 60000000 := by
  rw [zdv_e (by first | decide | omega) (by decide) (by first | decide | omega) (by unfold r32; omega)]
  exact ⟨Int.ediv_nonneg (by first | decide | omega) (by first | decide | omega), Int.ediv_le_self _ (by first | decide | omega)⟩
theorem tv_b {x : Int} (h : 0 ≤ x ∧ x < 16777216) : 20 ≤ tvT x ∧ tvT x ≤ 300 := by
  unfold tvT
  by_cases z : x < 1
  · rw [if_pos z]; omega
  · rw [if_neg z]
    have := dvT_b (x := x) (by first | decide | omega)
    unfold zmax zmin
    split <;> split <;> omega
theorem C_tpo {K : zK} {o x : Int} {F : zF} {B : zB} (ho : 0 ≤ o ∧ o < K.2 8) (hx : 0 ≤ x ∧ x < 16777216) (c : F 8 o 14 = 0) : f_SoundFile_tellTempo K o x F B = some (0, zup3 F 8 o 14 1, zup4 B 8 o 0 6 (tvT x)) := by
  unfold f_SoundFile_tellTempo f_SoundFile_tellTempo_39 f_SoundFile_tellTempo_45 tvT
  rw [if_pos ho, c, if_pos (by decide), if_pos rfl, if_pos (by unfold r32; omega)]
  by_cases z : 1 ≤ x
  · have b := dvT_b (x := x) (by first | decide | omega)
    have b2 : r32 (zmin 300 (zdv 60000000 x)) := by unfold zmin r32; split <;> omega
    rw [if_pos z, if_pos (iI_n0 (by first | decide | omega) (by unfold r32; omega)), if_pos (by unfold r32; omega), if_pos b2, if_pos ho, if_pos (by decide), if_pos ho, if_neg (by first | decide | omega)]
  · rw [if_neg z, if_pos ho, if_pos (by decide), if_pos ho, if_pos (by first | decide | omega)]
theorem C_tpoN {K : zK} {o x : Int} {F : zF} {B : zB} (ho : 0 ≤ o ∧ o < K.2 8) (c : F 8 o 14 = 1) : f_SoundFile_tellTempo K o x F B = some (0, F, B) := by
  unfold f_SoundFile_tellTempo f_SoundFile_tellTempo_45
  rw [if_pos ho, c, if_pos (by decide), if_neg (by decide)]
theorem L_287 {Km : Nat} {w s v : Int} {F : zF} {B : zB} (hs : 0 ≤ s ∧ s ≤ 60000000) (e : v = zmax 20 (zmin 300 s)) : f_M_meta_287 Km w s F B = f_M_meta_324 Km w F (zup4 B 14 0 74 6 v) := by
  unfold f_M_meta_287 f_M_meta_323
  rw [if_pos (by unfold r32; omega)]
  unfold zmax zmin at e
  by_cases z : 20 ≤ s
  · rw [if_pos z]
    by_cases z1 : s ≤ 300
    · rw [if_pos z1, if_pos (by decide)]
      have : v = s := by rw [e]; split <;> split at * <;> omega
      rw [this]
    · rw [if_neg z1, if_pos (by decide)]
      have : v = 300 := by rw [e]; split <;> split at * <;> omega
      rw [this]
  · rw [if_neg z, if_pos (by decide)]
    have : v = 20 := by rw [e]; split <;> split at * <;> omega
    rw [this]
theorem L_226p {Km : Nat} {a x y t : Int} {F : zF} {B : zB} (hx : 0 ≤ x ∧ x < 256) (hy : 0 ≤ y ∧ y < 256) (ht : 0 ≤ t ∧ t < 256) (eb : f_M_byteAt Km (a + 2) (zup3 F 14 0 93 1) B = some (t, zup3 F 14 0 93 1, B)) (c : F 14 0 93 = 0) : f_M_meta_226 Km y x a 3 81 F B = f_M_meta_324 Km 81 (zup3 F 14 0 93 1) (zup4 B 14 0 74 6 (tvT (65536 * x + 256 * y + t))) := by
  unfold f_M_meta_226
  rw [if_pos (by decide), if_pos rfl, if_pos (by decide), if_pos rfl, c, if_pos (by decide), if_pos rfl, eb, zb_s, zor3 hx hy ht, if_pos (by unfold r32; omega)]
  by_cases z : 65536 * x + 256 * y + t = 0
  · rw [if_pos z]
    refine L_287 (by first | decide | omega) ?_
    unfold tvT
    rw [if_pos (by first | decide | omega)]
    decide
  · rw [if_neg z, if_pos (iI_n0 (by first | decide | omega) (by unfold r32; omega))]
    have b := dvT_b (x := 65536 * x + 256 * y + t) (by first | decide | omega)
    refine L_287 b ?_
    unfold tvT
    rw [if_neg (by first | decide | omega)]
theorem L_226n {Km : Nat} {a x y : Int} {F : zF} {B : zB} (c : F 14 0 93 = 1) : f_M_meta_226 Km y x a 3 81 F B = f_M_meta_324 Km 81 F B := by
  unfold f_M_meta_226
  rw [if_pos (by decide), if_pos rfl, if_pos (by decide), if_pos rfl, c, if_pos (by decide), if_neg (by decide)]
/-- what is kept and what is told behind the bytes of a meta event -/
def MTp (o : Int) (F : zF) (B : zB) (Fm : zF) (Bm : zB) : Int → zF → zB → Int → zF → zB → Prop := fun _ F' B' r' Fm' Bm' => (∀ c y k, ¬ (c = 8 ∧ y = o ∧ 11 ≤ k ∧ k ≤ 14) → F' c y k = F c y k) ∧ mtB o B B' ∧ (∀ c y k, ¬ (c = 14 ∧ y = 0 ∧ 91 ≤ k ∧ k ≤ 93) → Fm' c y k = Fm c y k) ∧ mtH Bm Bm' ∧ HD o F' B' Fm' Bm' ∧ F' 8 o 11 = r' ∧ (r' = 0 ∨ r' = 1)
theorem sh4 {y : Int} (h : 1 ≤ y ∧ y ≤ 4) : zshl 1 y = 2 ∨ zshl 1 y = 4 ∨ zshl 1 y = 8 ∨ zshl 1 y = 16 := by
  have : y = 1 ∨ y = 2 ∨ y = 3 ∨ y = 4 := by omega
  rcases this with rfl | rfl | rfl | rfl <;> decide
theorem P_mb {K : zK} {Km : Nat} {o a n w c1 c2 m1 m2 t : Int} {F : zF} {B : zB} {Fm : zF} {Bm : zB} (ho : 0 ≤ o ∧ o < K.2 8) (h4 : F 8 o 4 = 0) (h0 : 0 < K.2 0) (hn : 0 ≤ n ∧ n < 268435456) (hw : 0 ≤ w ∧ w < 256) (e2 : 2 ≤ n → c1 = m1 ∧ c2 = m2 ∧ (0 ≤ m1 ∧ m1 < 256) ∧ (0 ≤ m2 ∧ m2 < 256)) (e3 : n = 3 → f_ByteRow_at K 0 (a + 2) F B = some (t, F, B) ∧ (∀ Fm, f_M_byteAt Km (a + 2) Fm Bm = some (t, Fm, Bm)) ∧ 0 ≤ t ∧ t < 256) (hd : HD o F B Fm Bm) : zP (if r32 w then (if w = 88 then (if n < 4 then f_SoundFile_loadMeta_80 K c2 c1 a n w o F B else zbind (f_SoundFile_tellTime K o c1 c2 F B) (fun r16 F16 B16 => f_SoundFile_loadMeta_141 K w o F16 B16)) else f_SoundFile_loadMeta_80 K c2 c1 a n w o F B) else none) (f_M_meta_82 Km m1 a n w m2 Fm Bm) (MTp o F B Fm Bm) := by
  have rw' : r32 w := by unfold r32; omega
  have rn' : r32 n := by unfold r32; omega
  have hd' := hd
  unfold HD at hd'
  rw [if_pos rw']
  by_cases z8 : w = 88 ∧ 4 ≤ n
  · obtain ⟨rfl, n4⟩ := z8
    obtain ⟨rfl, rfl, b1, b2⟩ := e2 (by first | decide | omega)
    rw [if_pos rfl, if_neg (by first | decide | omega)]
    by_cases c : F 8 o 13 = 0 ∧ (1 ≤ c1 ∧ c1 ≤ 12) ∧ (1 ≤ c2 ∧ c2 ≤ 4)
    · rw [C_tt ho c, zb_s, L_82p (by first | decide | omega) (by first | decide | omega), L_150 rw' rn' (by first | decide | omega), L_226 rw' rn' (by first | decide | omega)]
      have s4 := sh4 c.2.2
      refine P_141 ho rw' (fun v hv => ⟨fun c y k q => by rw [zup3_v, if_neg (by first | decide | omega), zup3_v, if_neg (by first | decide | omega)], fun c y k x q => by rw [zup4_v, if_neg (by first | decide | omega), zup4_v, if_neg (by first | decide | omega)], fun c y k q => by rw [zup3_v, if_neg (by first | decide | omega)], fun c y k x q => by rw [zup4_v, if_neg (by first | decide | omega), zup4_v, if_neg (by first | decide | omega)], ?_, by rw [zup3_v, if_pos (by first | decide | omega)], hv⟩)
      unfold HD
      simp only [zup3_v, zup4_v]
      simp
      omega
    · rw [C_ttN ho (by first | decide | omega) b1 b2 c, zb_s, L_82n (by first | decide | omega) (by first | decide | omega) b1 b2 (by first | decide | omega), L_150 rw' rn' (by first | decide | omega), L_226 rw' rn' (by first | decide | omega)]
      refine P_141 ho rw' (fun v hv => ⟨fun c y k q => by rw [zup3_v, if_neg (by first | decide | omega)], fun c y k x q => rfl, fun c y k q => rfl, fun c y k x q => rfl, ?_, by rw [zup3_v, if_pos (by first | decide | omega)], hv⟩)
      unfold HD
      simp only [zup3_v, zup4_v]
      simp
      omega
  · have e80 : (if w = 88 then (if n < 4 then f_SoundFile_loadMeta_80 K c2 c1 a n w o F B else zbind (f_SoundFile_tellTime K o c1 c2 F B) (fun r16 F16 B16 => f_SoundFile_loadMeta_141 K w o F16 B16)) else f_SoundFile_loadMeta_80 K c2 c1 a n w o F B) = f_SoundFile_loadMeta_80 K c2 c1 a n w o F B := by
      by_cases z : w = 88
      · rw [if_pos z, if_pos (by first | decide | omega)]
      · rw [if_neg z]
    rw [e80, L_82 rw' rn' z8]
    by_cases z9 : w = 89 ∧ 2 ≤ n
    · obtain ⟨rfl, n2⟩ := z9
      obtain ⟨rfl, rfl, b1, b2⟩ := e2 (by first | decide | omega)
      have e : f_SoundFile_loadMeta_80 K c2 c1 a n 89 o F B = zbind (f_SoundFile_tellKey K o (zi2b c1) c2 F B) (fun r29 F29 B29 => f_SoundFile_loadMeta_141 K 89 o F29 B29) := by
        unfold f_SoundFile_loadMeta_80
        rw [if_pos (by decide), if_pos rfl, if_pos rn', if_neg (by first | decide | omega), if_pos ho]
      rw [e]
      obtain ⟨k1, k2, k3, k4⟩ := key_e b1.1 b1.2
      by_cases c : F 8 o 12 = 0 ∧ (c1 ≤ 7 ∨ 249 ≤ c1) ∧ c2 ≤ 1
      · rw [C_tk ho b1 b2 c, zb_s, L_150p (by first | decide | omega) b1 b2 (by first | decide | omega), L_226 rw' rn' (by first | decide | omega)]
        have k7 : -7 ≤ zi2b c1 ∧ zi2b c1 ≤ 7 := by
          by_cases z : c1 ≤ 7
          · rw [k2 z]; omega
          · rw [k3 (by first | decide | omega)]; omega
        refine P_141 ho rw' (fun v hv => ⟨fun c y k q => by rw [zup3_v, if_neg (by first | decide | omega), zup3_v, if_neg (by first | decide | omega)], fun c y k x q => by rw [zup4_v, if_neg (by first | decide | omega), zup4_v, if_neg (by first | decide | omega)], fun c y k q => by rw [zup3_v, if_neg (by first | decide | omega)], fun c y k x q => by rw [zup4_v, if_neg (by first | decide | omega), zup4_v, if_neg (by first | decide | omega)], ?_, by rw [zup3_v, if_pos (by first | decide | omega)], hv⟩)
        unfold HD
        simp only [zup3_v, zup4_v]
        simp
        omega
      · rw [C_tkN ho (by first | decide | omega) b1 b2 c, zb_s, L_150n (by first | decide | omega) (by first | decide | omega) b1 b2 (by first | decide | omega), L_226 rw' rn' (by first | decide | omega)]
        refine P_141 ho rw' (fun v hv => ⟨fun c y k q => by rw [zup3_v, if_neg (by first | decide | omega)], fun c y k x q => rfl, fun c y k q => rfl, fun c y k x q => rfl, ?_, by rw [zup3_v, if_pos (by first | decide | omega)], hv⟩)
        unfold HD
        simp only [zup3_v, zup4_v]
        simp
        omega
    · rw [C_80 rw' rn' z9, L_150 rw' rn' z9]
      by_cases z1 : w = 81 ∧ n = 3
      · obtain ⟨rfl, rfl⟩ := z1
        obtain ⟨rfl, rfl, b1, b2⟩ := e2 (by first | decide | omega)
        obtain ⟨t1, t2, t3⟩ := e3 rfl
        have e : f_SoundFile_loadMeta_103 K c2 c1 a 3 81 o F B = zbind (f_SoundFile_tellTempo K o (((65536 * c1) + (256 * c2)) + t) F B) (fun r38 F38 B38 => f_SoundFile_loadMeta_141 K 81 o F38 B38) := by
          unfold f_SoundFile_loadMeta_103
          rw [if_pos (by decide), if_pos rfl, if_pos (by decide), if_pos rfl, if_pos ho, h4, if_pos (by first | decide | omega), t1, zb_s]
        rw [e]
        by_cases c : F 8 o 14 = 0
        · rw [C_tpo ho (by first | decide | omega) c, zb_s, L_226p b1 b2 t3 (t2 _) (by first | decide | omega)]
          have tb := tv_b (x := 65536 * c1 + 256 * c2 + t) (by first | decide | omega)
          refine P_141 ho rw' (fun v hv => ⟨fun c y k q => by rw [zup3_v, if_neg (by first | decide | omega), zup3_v, if_neg (by first | decide | omega)], fun c y k x q => by rw [zup4_v, if_neg (by first | decide | omega)], fun c y k q => by rw [zup3_v, if_neg (by first | decide | omega)], fun c y k x q => by rw [zup4_v, if_neg (by first | decide | omega)], ?_, by rw [zup3_v, if_pos (by first | decide | omega)], hv⟩)
          unfold HD
          simp only [zup3_v, zup4_v]
          simp
          omega
        · rw [C_tpoN ho (by first | decide | omega), zb_s, L_226n (by first | decide | omega)]
          refine P_141 ho rw' (fun v hv => ⟨fun c y k q => by rw [zup3_v, if_neg (by first | decide | omega)], fun c y k x q => rfl, fun c y k q => rfl, fun c y k x q => rfl, ?_, by rw [zup3_v, if_pos (by first | decide | omega)], hv⟩)
          unfold HD
          simp only [zup3_v, zup4_v]
          simp
          omega
      · rw [C_103 rw' rn' z1, L_226 rw' rn' z1]
        refine P_141 ho rw' (fun v hv => ⟨fun c y k q => by rw [zup3_v, if_neg (by first | decide | omega)], fun c y k x q => rfl, fun c y k q => rfl, fun c y k x q => rfl, ?_, by rw [zup3_v, if_pos (by first | decide | omega)], hv⟩)
        unfold HD
        simp only [zup3_v, zup4_v]
        simp
        omega
end
