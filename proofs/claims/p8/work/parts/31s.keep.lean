section
/-! ===== a file opened: what is kept of it ===== -/
theorem L_code {Km : Nat} {F : zF} {B : zB} (hK : 10 ≤ Km) : f_M_code Km 37 F B = some (1297379947, F, B) := by
  obtain ⟨m, e⟩ : ∃ m, Km = m + 1 + 1 + 1 + 1 + 1 := ⟨Km - 5, (by first | decide | omega)⟩
  have l37 : zsl 37 = 4 := by decide
  have g : f_M_code Km 37 F B = f_M_code_4 Km Km 0 0 37 F B := rfl
  have st : ∀ (j : Nat) (k w : Int), 0 ≤ k → k < 4 → f_M_code_4 Km (j + 1) k w 37 F B = if r32 (zsc 37 k) then f_M_code_4 Km j (k + 1) (zlor (zlshl w 8) (zsc 37 k)) 37 F B else none := fun j k w k0 k1 => by
    rw [f_M_code_4, if_pos (by decide), L_slen (by decide) (by decide), zb_s, if_pos (by unfold r32; omega), l37, if_pos (by decide), if_neg (by first | decide | omega), L_schar (by decide) k0 (by first | decide | omega) (by first | decide | omega), zb_s]
  have en : ∀ (j : Nat) (w : Int), f_M_code_4 Km (j + 1) 4 w 37 F B = some (w, F, B) := fun j w => by
    rw [f_M_code_4, if_pos (by decide), L_slen (by decide) (by decide), zb_s, if_pos (by decide), l37, if_pos (by decide), if_pos (by decide)]
  have s0 : zsc 37 0 = 77 := by decide
  have s1 : zsc 37 1 = 84 := by decide
  have s2 : zsc 37 2 = 114 := by decide
  have s3 : zsc 37 3 = 107 := by decide
  have go : ∀ j, f_M_code_4 Km (j + 1 + 1 + 1 + 1 + 1) 0 0 37 F B = some (1297379947, F, B) := fun j => by
    rw [st _ 0 0 (by decide) (by decide), s0, if_pos (by decide), zlor8 (by decide) (by decide) (by decide) (by decide), show (0 : Int) + 1 = 1 from rfl, st _ 1 _ (by decide) (by decide), s1, if_pos (by decide), zlor8 (by decide) (by decide) (by decide) (by decide), show (1 : Int) + 1 = 2 from rfl, st _ 2 _ (by decide) (by decide), s2, if_pos (by decide), zlor8 (by decide) (by decide) (by decide) (by decide), show (2 : Int) + 1 = 3 from rfl, st _ 3 _ (by decide) (by decide), s3, if_pos (by decide), zlor8 (by decide) (by decide) (by decide) (by decide), show (3 : Int) + 1 = 4 from rfl, en]
    rfl
  rw [g]
  have := go m
  rw [← e] at this
  exact this
theorem L_k45 {Km : Nat} {F : zF} (hc : 0 ≤ F 14 0 94 ∧ F 14 0 94 ≤ 400) : ∀ (d m : Nat) (i : Int) (B : zB), i + d = F 14 0 94 → 0 ≤ i → d < m → ∃ B', f_M_keep_45 Km m i F B = some (0, F, B') ∧ (∀ c y k x, ¬ (c = 14 ∧ y = 0 ∧ 75 ≤ k ∧ k ≤ 80 ∧ i ≤ x ∧ x < F 14 0 94) → B' c y k x = B c y k x) ∧ (∀ x, i ≤ x → x < F 14 0 94 → B' 14 0 75 x = B 14 0 82 x ∧ B' 14 0 76 x = B 14 0 83 x ∧ B' 14 0 77 x = B 14 0 84 x ∧ B' 14 0 78 x = B 14 0 85 x ∧ B' 14 0 79 x = B 14 0 86 x ∧ B' 14 0 80 x = B 14 0 87 x) := by
  intro d
  induction d with
  | zero =>
    intro m i B e i0 hm
    obtain ⟨p, rfl⟩ : ∃ p, m = p + 1 := ⟨m - 1, (by first | decide | omega)⟩
    refine ⟨B, ?_, fun _ _ _ _ _ => rfl, fun x _ _ => (by first | decide | omega)⟩
    rw [f_M_keep_45, if_pos (by unfold r32; omega), if_pos (by unfold r32; omega), if_pos (by first | decide | omega)]
  | succ d ih =>
    intro m i B e i0 hm
    obtain ⟨p, rfl⟩ : ∃ p, m = p + 1 := ⟨m - 1, (by first | decide | omega)⟩
    have e82 : ∀ (D : zB) (k : Nat) (v : Int) (j : Nat), 75 ≤ k → k ≤ 80 → 82 ≤ j → (zup4 D 14 0 k i v) 14 0 j i = D 14 0 j i := fun D k v j _ _ _ => by rw [zup4_v, if_neg (by first | decide | omega)]
    obtain ⟨B', e1, e2, e3⟩ := ih p (i + 1) (zup4 (zup4 (zup4 (zup4 (zup4 (zup4 B 14 0 75 i (B 14 0 82 i)) 14 0 76 i (B 14 0 83 i)) 14 0 77 i (B 14 0 84 i)) 14 0 78 i (B 14 0 85 i)) 14 0 79 i (B 14 0 86 i)) 14 0 80 i (B 14 0 87 i)) (by first | decide | omega) (by first | decide | omega) (by first | decide | omega)
    refine ⟨B', ?_, fun c y k x n => ?_, fun x x0 x1 => ?_⟩
    · rw [f_M_keep_45, if_pos (by unfold r32; omega), if_pos (by unfold r32; omega), if_neg (by first | decide | omega), if_pos (by first | decide | omega)]
      simp only [e82 _ 75 _ 83 (by decide) (by decide) (by decide), e82 _ 75 _ 84 (by decide) (by decide) (by decide), e82 _ 75 _ 85 (by decide) (by decide) (by decide), e82 _ 75 _ 86 (by decide) (by decide) (by decide), e82 _ 75 _ 87 (by decide) (by decide) (by decide), e82 _ 76 _ 84 (by decide) (by decide) (by decide), e82 _ 76 _ 85 (by decide) (by decide) (by decide), e82 _ 76 _ 86 (by decide) (by decide) (by decide), e82 _ 76 _ 87 (by decide) (by decide) (by decide), e82 _ 77 _ 85 (by decide) (by decide) (by decide), e82 _ 77 _ 86 (by decide) (by decide) (by decide), e82 _ 77 _ 87 (by decide) (by decide) (by decide), e82 _ 78 _ 86 (by decide) (by decide) (by decide), e82 _ 78 _ 87 (by decide) (by decide) (by decide), e82 _ 79 _ 87 (by decide) (by decide) (by decide)]
      exact e1
    · rw [e2 c y k x (by first | decide | omega)]
      rw [zup4_v, if_neg (by first | decide | omega), zup4_v, if_neg (by first | decide | omega), zup4_v, if_neg (by first | decide | omega), zup4_v, if_neg (by first | decide | omega), zup4_v, if_neg (by first | decide | omega), zup4_v, if_neg (by first | decide | omega)]
    · by_cases z : x = i
      · subst z
        rw [e2 14 0 75 x (by first | decide | omega), e2 14 0 76 x (by first | decide | omega), e2 14 0 77 x (by first | decide | omega), e2 14 0 78 x (by first | decide | omega), e2 14 0 79 x (by first | decide | omega), e2 14 0 80 x (by first | decide | omega)]
        simp [zup4_v]
      · obtain ⟨a1, a2, a3, a4, a5, a6⟩ := e3 x (by first | decide | omega) x1
        rw [a1, a2, a3, a4, a5, a6]
        simp [zup4_v]
theorem L_k7 {Km : Nat} {F : zF} (hKm : 500 ≤ Km) (hc : 0 ≤ F 14 0 94 ∧ F 14 0 94 ≤ 400) : ∀ (d m : Nat) (i : Int) (B : zB), i + d = 8 → 0 ≤ i → d < m → ∃ B', f_M_keep_7 Km m i F B = some (0, F, B') ∧ (∀ c y k x, ¬ (c = 14 ∧ y = 0 ∧ (k = 73 ∨ (75 ≤ k ∧ k ≤ 81))) → B' c y k x = B c y k x) ∧ (∀ x, 0 ≤ x → x < F 14 0 94 → B' 14 0 75 x = B 14 0 82 x ∧ B' 14 0 76 x = B 14 0 83 x ∧ B' 14 0 77 x = B 14 0 84 x ∧ B' 14 0 78 x = B 14 0 85 x ∧ B' 14 0 79 x = B 14 0 86 x ∧ B' 14 0 80 x = B 14 0 87 x) ∧ (∀ x, i ≤ x → x < 8 → B' 14 0 73 x = B 14 0 74 x ∧ B' 14 0 81 x = B 14 0 88 x) ∧ (∀ x, x < i → B' 14 0 73 x = B 14 0 73 x ∧ B' 14 0 81 x = B 14 0 81 x) := by
  intro d
  induction d with
  | zero =>
    intro m i B e i0 hm
    obtain ⟨p, rfl⟩ : ∃ p, m = p + 1 := ⟨m - 1, (by first | decide | omega)⟩
    obtain ⟨B', e1, e2, e3⟩ := L_k45 (Km := Km) hc (F 14 0 94).toNat Km 0 B (by first | decide | omega) (by first | decide | omega) (by first | decide | omega)
    refine ⟨B', ?_, fun c y k x n => e2 c y k x (by first | decide | omega), e3, fun x _ _ => (by first | decide | omega), fun x _ => ⟨e2 14 0 73 x (by first | decide | omega), e2 14 0 81 x (by first | decide | omega)⟩⟩
    rw [f_M_keep_7, if_pos (by unfold r32; omega), if_pos (by first | decide | omega)]
    exact e1
  | succ d ih =>
    intro m i B e i0 hm
    obtain ⟨p, rfl⟩ : ∃ p, m = p + 1 := ⟨m - 1, (by first | decide | omega)⟩
    have e88 : (zup4 B 14 0 73 i (B 14 0 74 i)) 14 0 88 i = B 14 0 88 i := by rw [zup4_v, if_neg (by first | decide | omega)]
    obtain ⟨B', e1, e2, e3, e4, e5⟩ := ih p (i + 1) (zup4 (zup4 B 14 0 73 i (B 14 0 74 i)) 14 0 81 i (B 14 0 88 i)) (by first | decide | omega) (by first | decide | omega) (by first | decide | omega)
    refine ⟨B', ?_, fun c y k x n => ?_, fun x x0 x1 => ?_, fun x x0 x1 => ?_, fun x x0 => ?_⟩
    · rw [f_M_keep_7, if_pos (by unfold r32; omega), if_neg (by first | decide | omega), if_pos (by first | decide | omega), e88]
      exact e1
    · rw [e2 c y k x n, zup4_v, if_neg (by first | decide | omega), zup4_v, if_neg (by first | decide | omega)]
    · obtain ⟨a1, a2, a3, a4, a5, a6⟩ := e3 x x0 x1
      rw [a1, a2, a3, a4, a5, a6]
      simp [zup4_v]
    · by_cases z : x = i
      · subst z
        obtain ⟨a1, a2⟩ := e5 x (by first | decide | omega)
        rw [a1, a2]
        simp [zup4_v]
      · obtain ⟨a1, a2⟩ := e4 x (by first | decide | omega) x1
        rw [a1, a2]
        simp [zup4_v]
    · obtain ⟨a1, a2⟩ := e5 x (by first | decide | omega)
      rw [a1, a2, zup4_v, if_neg (by first | decide | omega), zup4_v, if_neg (by first | decide | omega), zup4_v, if_neg (by first | decide | omega), zup4_v, if_neg (by first | decide | omega)]
      exact ⟨rfl, rfl⟩
/-- the file that is open, alike on both sides -/
def OPN (o : Int) (F : zF) (B : zB) (Bm : zB) : Prop := ((B 8 o 0 0 = Bm 14 0 73 0 ∧ 1 ≤ Bm 14 0 73 0 ∧ Bm 14 0 73 0 ≤ 8) ∧ (B 8 o 0 1 = Bm 14 0 73 1 ∧ 1 ≤ Bm 14 0 73 1 ∧ Bm 14 0 73 1 ≤ 960) ∧ (B 8 o 0 2 = Bm 14 0 73 2 ∧ -7 ≤ Bm 14 0 73 2 ∧ Bm 14 0 73 2 ≤ 7) ∧ (B 8 o 0 3 = Bm 14 0 73 3 ∧ 0 ≤ Bm 14 0 73 3 ∧ Bm 14 0 73 3 ≤ 1) ∧ (B 8 o 0 4 = Bm 14 0 73 4 ∧ 1 ≤ Bm 14 0 73 4 ∧ Bm 14 0 73 4 ≤ 12) ∧ (B 8 o 0 5 = Bm 14 0 73 5 ∧ (Bm 14 0 73 5 = 2 ∨ Bm 14 0 73 5 = 4 ∨ Bm 14 0 73 5 = 8 ∨ Bm 14 0 73 5 = 16)) ∧ (B 8 o 0 6 = Bm 14 0 73 6 ∧ 20 ≤ Bm 14 0 73 6 ∧ Bm 14 0 73 6 ≤ 300)) ∧ (F 8 o 2 = Bm 14 0 73 7 ∧ 0 ≤ F 8 o 2 ∧ F 8 o 2 ≤ 400) ∧ (∀ i, 0 ≤ i → i < F 8 o 2 → B 8 o 220 i = Bm 14 0 75 i ∧ B 8 o 221 i = Bm 14 0 76 i ∧ B 8 o 222 i = Bm 14 0 77 i ∧ B 8 o 223 i = Bm 14 0 78 i ∧ B 8 o 224 i = Bm 14 0 79 i ∧ B 8 o 225 i = Bm 14 0 80 i) ∧ (∀ i, 0 ≤ i → i < F 8 o 2 → (0 ≤ Bm 14 0 75 i ∧ Bm 14 0 75 i < Bm 14 0 73 0) ∧ (0 ≤ Bm 14 0 76 i ∧ Bm 14 0 76 i < 16) ∧ (0 ≤ Bm 14 0 77 i ∧ Bm 14 0 77 i < 128) ∧ (0 ≤ Bm 14 0 78 i ∧ Bm 14 0 78 i < 128) ∧ (0 ≤ Bm 14 0 79 i ∧ Bm 14 0 79 i ≤ 402921619456) ∧ (0 ≤ Bm 14 0 80 i ∧ Bm 14 0 80 i ≤ 402921619456)) ∧ (∀ i, 0 ≤ i → i + 1 < F 8 o 2 → Bm 14 0 75 i ≤ Bm 14 0 75 (i + 1) ∧ (Bm 14 0 75 i = Bm 14 0 75 (i + 1) → Bm 14 0 79 i ≤ Bm 14 0 79 (i + 1))) ∧ (∀ k, 0 ≤ k → k < Bm 14 0 73 0 → (-1 ≤ B 8 o 3 k ∧ B 8 o 3 k ≤ 3) ∧ Bm 14 0 81 k = if 0 ≤ B 8 o 3 k then B 8 o 3 k else 0)
/-- what opening leaves behind -/
def QL (o : Int) (q : zF × zB × zF × zB) : Int → zF → zB → Int → zF → zB → Prop := fun r F B r' Fm Bm => r' = r ∧ (0 ≤ r ∧ r ≤ 100000) ∧ ((∀ c y k, ¬ (c = 8 ∧ y = o) → F c y k = q.1 c y k) ∧ (∀ c y k x, ¬ (c = 8 ∧ y = o) → B c y k x = q.2.1 c y k x) ∧ (∀ c y k, ¬ (c = 14 ∧ y = 0 ∧ (k = 3 ∨ k = 17 ∨ k = 18 ∨ k = 72 ∨ (89 ≤ k ∧ k ≤ 94))) → Fm c y k = q.2.2.1 c y k) ∧ (∀ c y k x, ¬ (c = 14 ∧ y = 0 ∧ 73 ≤ k ∧ k ≤ 88) → Bm c y k x = q.2.2.2 c y k x)) ∧ Fm 14 0 3 = 0 ∧ ((r = 0 ∧ Fm 14 0 72 = 1 ∧ OPN o F B Bm) ∨ (¬ r = 0 ∧ Fm 14 0 72 = q.2.2.1 14 0 72 ∧ ∀ k x, k = 73 ∨ (75 ≤ k ∧ k ≤ 81) → Bm 14 0 k x = q.2.2.2 14 0 k x))
/-- the end, well -/
theorem P_okE {K : zK} {Km : Nat} {o tr : Int} {q : zF × zB × zF × zB} {F : zF} {B : zB} {Fm : zF} {Bm : zB} (ho : 0 ≤ o ∧ o < K.2 8) (hKm : 500 ≤ Km) (w : OW o q F B Fm Bm) (db : DB o tr F B Fm Bm) (g7 : F 8 o 7 = 0) (g17 : Fm 14 0 17 = 0) (ht : tr = Bm 14 0 74 0) : zP (f_SoundFile_load_169 K o F B) (f_M_open_198 Km Fm Bm) (QL o q) := by
  obtain ⟨sn, nu, hd⟩ := db
  obtain ⟨⟨h11, h12, h13, h14⟩, h2, h3, h4, h5, h6⟩ := sn
  obtain ⟨w1, w2, w3, w4, w5⟩ := w
  unfold HD at hd
  have z3 : ∀ c y k, ¬ (c = 14 ∧ y = 0 ∧ k = 3) → (zup3 Fm 14 0 3 0) c y k = Fm c y k := fun c y k n => by rw [zup3_v, if_neg n]
  have z74 : ∀ c y k x, ¬ (c = 14 ∧ y = 0 ∧ k = 74 ∧ x = 7) → (zup4 Bm 14 0 74 7 (Fm 14 0 94)) c y k x = Bm c y k x := fun c y k x n => by rw [zup4_v, if_neg n]
  have e94 : (zup3 (zup3 Fm 14 0 3 0) 14 0 72 1) 14 0 94 = Fm 14 0 94 := by rw [zup3_v, if_neg (by first | decide | omega), z3 14 0 94 (by first | decide | omega)]
  obtain ⟨B', e1, e2, e3, e4, e5⟩ := L_k7 (Km := Km) (F := zup3 (zup3 Fm 14 0 3 0) 14 0 72 1) hKm (by rw [e94]; omega) 8 Km 0 (zup4 Bm 14 0 74 7 (Fm 14 0 94)) (by first | decide | omega) (by first | decide | omega) (by first | decide | omega)
  have hr : f_M_open_198 Km Fm Bm = some (0, zup3 (zup3 Fm 14 0 3 0) 14 0 72 1, B') := by
    unfold f_M_open_198
    rw [L_good (by rw [z3 14 0 17 (by first | decide | omega)]; exact g17), zb_s, if_pos (show r32 1 by decide), if_neg (show ¬ (1 : Int) = 0 by decide), z3 14 0 94 (by first | decide | omega)]
    have e1' : f_M_keep Km (zup3 Fm 14 0 3 0) (zup4 Bm 14 0 74 7 (Fm 14 0 94)) = some (0, zup3 (zup3 Fm 14 0 3 0) 14 0 72 1, B') := e1
    rw [e1', zb_s]
  rw [hr]
  unfold f_SoundFile_load_169
  rw [if_pos ho, g7]
  have k73 : ∀ x, 0 ≤ x → x < 7 → B' 14 0 73 x = Bm 14 0 74 x := fun x x0 x1 => by rw [(e4 x x0 (by first | decide | omega)).1, z74 14 0 74 x (by first | decide | omega)]
  have k7 : B' 14 0 73 7 = Fm 14 0 94 := by rw [(e4 7 (by first | decide | omega) (by first | decide | omega)).1, zup4_v, if_pos (by first | decide | omega)]
  have k81 : ∀ x, 0 ≤ x → x < 8 → B' 14 0 81 x = Bm 14 0 88 x := fun x x0 x1 => by rw [(e4 x x0 (by first | decide | omega)).2, z74 14 0 88 x (by first | decide | omega)]
  have ks : ∀ x, 0 ≤ x → x < F 8 o 2 → B' 14 0 75 x = Bm 14 0 82 x ∧ B' 14 0 76 x = Bm 14 0 83 x ∧ B' 14 0 77 x = Bm 14 0 84 x ∧ B' 14 0 78 x = Bm 14 0 85 x ∧ B' 14 0 79 x = Bm 14 0 86 x ∧ B' 14 0 80 x = Bm 14 0 87 x := fun x x0 x1 => by
    have := e3 x x0 (by rw [e94]; omega)
    rw [z74 14 0 82 x (by first | decide | omega), z74 14 0 83 x (by first | decide | omega), z74 14 0 84 x (by first | decide | omega), z74 14 0 85 x (by first | decide | omega), z74 14 0 86 x (by first | decide | omega), z74 14 0 87 x (by first | decide | omega)] at this
    exact this
  refine P_some ⟨rfl, (by first | decide | omega), ⟨w2, w3, fun c y k n => ?_, fun c y k x n => ?_⟩, ?_, Or.inl ⟨rfl, ?_, ?_, ?_, fun i i0 i1 => ?_, fun i i0 i1 => ?_, fun i i0 i1 => ?_, fun k k0 k1 => ?_⟩⟩
  · rw [zup3_v, if_neg (by first | decide | omega), z3 c y k (by first | decide | omega)]; exact w4 c y k (by first | decide | omega)
  · rw [e2 c y k x (by first | decide | omega), z74 c y k x (by first | decide | omega)]; exact w5 c y k x (by first | decide | omega)
  · rw [zup3_v, if_neg (by first | decide | omega), zup3_v, if_pos (by first | decide | omega)]
  · rw [zup3_v, if_pos (by first | decide | omega)]
  · rw [k73 0 (by first | decide | omega) (by first | decide | omega), k73 1 (by first | decide | omega) (by first | decide | omega), k73 2 (by first | decide | omega) (by first | decide | omega), k73 3 (by first | decide | omega) (by first | decide | omega), k73 4 (by first | decide | omega) (by first | decide | omega), k73 5 (by first | decide | omega) (by first | decide | omega), k73 6 (by first | decide | omega) (by first | decide | omega)]
    omega
  · rw [k7]; omega
  · obtain ⟨a1, a2, a3, a4, a5, a6⟩ := ks i i0 i1
    rw [a1, a2, a3, a4, a5, a6]
    exact h2 i i0 i1
  · obtain ⟨a1, a2, a3, a4, a5, a6⟩ := ks i i0 i1
    rw [a1, a2, a3, a4, a5, a6, k73 0 (by first | decide | omega) (by first | decide | omega)]
    have := h3 i i0 i1
    have := h4 i i0 i1
    omega
  · rw [(ks i i0 (by first | decide | omega)).1, (ks (i + 1) (by first | decide | omega) i1).1, (ks i i0 (by first | decide | omega)).2.2.2.2.1, (ks (i + 1) (by first | decide | omega) i1).2.2.2.2.1]
    exact h6 i i0 i1
  · rw [k73 0 (by first | decide | omega) (by first | decide | omega)] at k1
    rw [k81 k k0 (by first | decide | omega)]
    obtain ⟨b1, b2, b3⟩ := nu k k0 (by first | decide | omega)
    exact ⟨b1, b2 (by first | decide | omega)⟩
/-- the end, with a fault -/
theorem P_okX {K : zK} {Km : Nat} {o : Int} {q : zF × zB × zF × zB} {F : zF} {B : zB} {Fm : zF} {Bm : zB} (ho : 0 ≤ o ∧ o < K.2 8) (w : OW o q F B Fm Bm) (x : RX o F Fm) : zP (f_SoundFile_load_169 K o F B) (f_M_open_198 Km Fm Bm) (QL o q) := by
  obtain ⟨w1, w2, w3, w4, w5⟩ := w
  have z3 : ∀ c y k, ¬ (c = 14 ∧ y = 0 ∧ k = 3) → (zup3 Fm 14 0 3 0) c y k = Fm c y k := fun c y k n => by rw [zup3_v, if_neg n]
  have x3 : RX o F (zup3 Fm 14 0 3 0) := RX_f x rfl rfl rfl (z3 14 0 17 (by first | decide | omega)) (z3 14 0 18 (by first | decide | omega)) (z3 14 0 89 (by first | decide | omega))
  unfold f_SoundFile_load_169 f_M_open_198
  rw [if_pos ho, L_goodX x3, zb_s, if_pos (show r32 0 by decide), if_pos (show (0 : Int) = 0 from rfl), z3 14 0 17 (by first | decide | omega), z3 14 0 18 (by first | decide | omega)]
  obtain ⟨x7, x17, x18, _⟩ := x
  refine P_some ⟨(by first | decide | omega), (by first | decide | omega), ⟨w2, w3, fun c y k n => ?_, fun c y k x n => w5 c y k x (by first | decide | omega)⟩, ?_, Or.inr ⟨(by first | decide | omega), ?_, fun k x n => w5 14 0 k x (by first | decide | omega)⟩⟩
  · rw [z3 c y k (by first | decide | omega)]; exact w4 c y k (by first | decide | omega)
  · rw [zup3_v, if_pos (by first | decide | omega)]
  · rw [z3 14 0 72 (by first | decide | omega)]; exact w4 14 0 72 (by first | decide | omega)
end
