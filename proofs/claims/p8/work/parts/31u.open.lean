section
/-! ===== a file opened whole, both sides ===== -/
theorem C_sd68 {K : zK} {o : Int} {F : zF} (ho : 0 ≤ o ∧ o < K.2 8) : ∀ (d m : Nat) (i : Int) (B : zB), i + d = 8 → 0 ≤ i → d < m → ∃ B', f_SoundFile_setDefaults_68 K m i o F B = some (0, F, B') ∧ (∀ c y k x, ¬ (c = 8 ∧ y = o ∧ k = 3) → B' c y k x = B c y k x) ∧ (∀ x, i ≤ x → x < 8 → B' 8 o 3 x = -1) ∧ (∀ x, x < i → B' 8 o 3 x = B 8 o 3 x) := by
  intro d
  induction d with
  | zero =>
    intro m i B e i0 hm
    obtain ⟨p, rfl⟩ : ∃ p, m = p + 1 := ⟨m - 1, (by first | decide | omega)⟩
    refine ⟨B, ?_, fun _ _ _ _ _ => rfl, fun x _ _ => (by first | decide | omega), fun _ _ => rfl⟩
    rw [f_SoundFile_setDefaults_68, if_pos (by unfold r32; omega), if_pos (by first | decide | omega)]
  | succ d ih =>
    intro m i B e i0 hm
    obtain ⟨p, rfl⟩ : ∃ p, m = p + 1 := ⟨m - 1, (by first | decide | omega)⟩
    obtain ⟨B', e1, e2, e3, e4⟩ := ih p (i + 1) (zup4 B 8 o 3 i (-1)) (by first | decide | omega) (by first | decide | omega) (by first | decide | omega)
    refine ⟨B', ?_, fun c y k x n => ?_, fun x x0 x1 => ?_, fun x x0 => ?_⟩
    · rw [f_SoundFile_setDefaults_68, if_pos (by unfold r32; omega), if_neg (by first | decide | omega), if_pos ho, if_pos (by first | decide | omega)]
      exact e1
    · rw [e2 c y k x n, zup4_v, if_neg (by first | decide | omega)]
    · by_cases z : x = i
      · rw [e4 x (by first | decide | omega), zup4_v, if_pos (by first | decide | omega)]
      · exact e3 x (by first | decide | omega) x1
    · rw [e4 x (by first | decide | omega), zup4_v, if_neg (by first | decide | omega)]
/-- the reference at a file's end: a fault there -/
theorem L_nxF {Km : Nat} {F : zF} {B : zB} (h : F 14 0 17 = 2) : f_M_next Km F B = some (0, F, B) := by
  have e : f_M_good Km F B = some (0, F, B) := by
    unfold f_M_good f_M_good_12
    rw [h, if_pos (by decide), if_neg (by decide), if_pos (by decide)]
  unfold f_M_next
  rw [e, zb_s, if_pos (by decide), if_pos rfl]
theorem L_w5 {Km m : Nat} {k v : Int} {F : zF} {B : zB} (hk : 0 ≤ k ∧ k < 4) (G : zF) (e : f_M_next Km F B = some (0, G, B)) : f_M_whole_5 Km (m + 1) k 0 4 F B = f_M_whole_5 Km m (k + 1) 0 4 G B := by
  rw [f_M_whole_5, if_pos (by unfold r32; omega), if_pos (by decide), if_neg (by first | decide | omega), e, zb_s, if_pos (by decide), zlor8 (by decide) (by decide) (by decide) (by decide)]
  rfl
theorem L_wE {Km : Nat} {F : zF} {B : zB} (hK : 10 ≤ Km) (G : zF) (e : f_M_next Km F B = some (0, G, B)) (h : G 14 0 17 = 2) : f_M_whole Km 4 F B = some (0, G, B) := by
  obtain ⟨m, em⟩ : ∃ m, Km = m + 1 + 1 + 1 + 1 + 1 := ⟨Km - 5, (by first | decide | omega)⟩
  have e5 : ∀ j, f_M_whole_5 Km (j + 1) 4 0 4 G B = some (0, G, B) := fun j => by
    rw [f_M_whole_5, if_pos (by decide), if_pos (by decide), if_pos (by decide)]
  have go : ∀ j, f_M_whole_5 Km (j + 1 + 1 + 1 + 1 + 1) 0 0 4 F B = some (0, G, B) := fun j => by
    rw [L_w5 (v := 0) (by decide) G e, L_w5 (v := 0) (by decide) G (L_nxF h), L_w5 (v := 0) (by decide) G (L_nxF h), L_w5 (v := 0) (by decide) G (L_nxF h)]
    exact e5 j
  have g : f_M_whole Km 4 F B = f_M_whole_5 Km Km 0 0 4 F B := rfl
  rw [g]
  have := go m
  rw [← em] at this
  exact this
/-- the head says more than there is: the reference finds it at the first chunk -/
theorem P_late {K : zK} {Km : Nat} {o l : Int} {q : zF × zB × zF × zB} {F : zF} {B : zB} {Fm : zF} {Bm : zB} (h0 : 2 ≤ K.2 0) (ho : 0 ≤ o ∧ o < K.2 8) (hK : 4000 ≤ K.1) (hKm : 4000 ≤ Km) (tq : TQ q) (w : OW o q F B Fm Bm) (g7 : F 8 o 7 = 2 + 16 * F 0 0 1) (g17 : Fm 14 0 17 = 0) (hl : F 0 0 1 < l ∧ l ≤ 17179869184) (h74 : 1 ≤ Bm 14 0 74 0 ∧ Bm 14 0 74 0 ≤ 8) (x5 : (0 ≤ F 8 o 5 ∧ F 8 o 5 ≤ 3000) ∧ F 8 o 6 ≤ 3000 ∧ -1 ≤ F 8 o 6) : zP (f_SoundFile_load_43 K K.1 0 o 0 F B) (f_M_open_81 Km Km 0 l Fm Bm) (QL o q) := by
  have n3 := (RO_w tq w).2.1
  obtain ⟨m, em⟩ : ∃ m, K.1 = m + 1 := ⟨K.1 - 1, (by first | decide | omega)⟩
  obtain ⟨r, er⟩ : ∃ m, Km = m + 1 + 1 := ⟨Km - 2, (by first | decide | omega)⟩
  have ec : ∀ j, f_SoundFile_load_43 K (j + 1) 0 o 0 F B = f_SoundFile_load_169 K o F B := fun j => by
    rw [f_SoundFile_load_43, if_pos (by decide), if_neg (by decide), if_pos ho, if_pos (show r32 (F 8 o 7) by unfold r32; omega), if_neg (by first | decide | omega)]
  have hs : GSm (Fm 14 0 3) (Fm 14 0 3) (zup3 (zup3 Fm 14 0 89 (Fm 14 0 3)) 14 0 90 3000) := by
    unfold GSm
    simp only [zup3_v]
    simp
    omega
  have e1 := L_nxE (Km := Km) (Bm := Bm) hs (by first | decide | omega)
  generalize hG : zup3 (zup3 (zup3 (zup3 Fm 14 0 89 (Fm 14 0 3)) 14 0 90 3000) 14 0 17 2) 14 0 18 (Fm 14 0 3) = G at e1
  have k17 : G 14 0 17 = 2 := by rw [← hG, zup3_v, if_neg (by first | decide | omega), zup3_v, if_pos (by first | decide | omega)]
  have k18 : G 14 0 18 = Fm 14 0 3 := by rw [← hG, zup3_v, if_pos (by first | decide | omega)]
  have k89 : G 14 0 89 = Fm 14 0 3 := by rw [← hG, zup3_v, if_neg (by first | decide | omega), zup3_v, if_neg (by first | decide | omega), zup3_v, if_neg (by first | decide | omega), zup3_v, if_pos (by first | decide | omega)]
  have k3 : G 14 0 3 = Fm 14 0 3 := by rw [← hG, zup3_v, if_neg (by first | decide | omega), zup3_v, if_neg (by first | decide | omega), zup3_v, if_neg (by first | decide | omega), zup3_v, if_neg (by first | decide | omega)]
  have kn : ∀ c y k, ¬ (c = 14 ∧ y = 0 ∧ (k = 17 ∨ k = 18 ∨ k = 89 ∨ k = 90)) → G c y k = Fm c y k := fun c y k n => by rw [← hG, zup3_v, if_neg (by first | decide | omega), zup3_v, if_neg (by first | decide | omega), zup3_v, if_neg (by first | decide | omega), zup3_v, if_neg (by first | decide | omega)]
  have e2 := L_wE (by first | decide | omega) G e1 k17
  have e3 := L_wE (Km := Km) (B := Bm) (by first | decide | omega) G (L_nxF k17) k17
  have x : RX o F G := by
    unfold RX
    rw [k17, k18, k89]
    omega
  have e4 : ∀ j, f_M_open_81 Km (j + 1 + 1) 0 l Fm Bm = f_M_open_198 Km G Bm := fun j => by
    have e5 : f_M_open_81 Km (j + 1) 0 (Fm 14 0 3 + 0) G Bm = f_M_open_198 Km G Bm := by
      rw [f_M_open_81, L_goodX x, zb_s, if_pos (show r32 0 by decide), if_pos (show (0 : Int) = 0 from rfl)]
    rw [f_M_open_81, L_good g17, zb_s, if_pos (show r32 1 by decide), if_neg (show ¬ (1 : Int) = 0 by decide), if_pos (show r32 0 by decide), if_pos (show r32 (Bm 14 0 74 0) by unfold r32; omega), if_neg (by first | decide | omega), if_pos (show r32 (Fm 14 0 3) by unfold r32; omega), if_pos (show r64 l by unfold r64; omega), if_pos (show r64 (Fm 14 0 3) by unfold r64; omega), if_pos (zcmp_o.mpr (by first | decide | omega))]
    unfold f_M_open_118 f_M_isTrack f_M_isTrack_22
    rw [if_pos (show r32 (Fm 14 0 3) by unfold r32; omega), e2, zb_s, L_code (by first | decide | omega), zb_s, if_pos (show r64 0 by decide), if_pos (show r64 1297379947 by decide), if_neg (show ¬ zcmp 0 1297379947 = 0 from fun h => by have := zcmp_0.mp h; omega), if_pos (show (0 : Int) = 0 ∨ (0 : Int) = 1 from Or.inl rfl), zb_s, e3, zb_s, k89, if_pos (show r32 (Fm 14 0 3) by unfold r32; omega), L_goodX x, zb_s, if_pos (show r32 0 by decide), if_pos (show (0 : Int) = 0 from rfl)]
    unfold f_M_open_176 f_M_open_195
    rw [k3, if_pos (show r32 (Fm 14 0 3) by unfold r32; omega), if_pos (show r64 (Fm 14 0 3 + 0) by unfold r64; omega), if_pos (show r64 (Fm 14 0 3) by unfold r64; omega), if_pos (zcmp_m.mpr (by first | decide | omega)), e5]
  have ec' := ec m
  have e4' := e4 r
  rw [← em] at ec'
  rw [← er] at e4'
  rw [ec', e4']
  exact P_okX ho (OW_x w rfl (fun _ _ _ _ => rfl) (fun _ _ _ _ _ => rfl) (fun c y k n => kn c y k (by first | decide | omega)) (fun _ _ _ _ _ => rfl)) x
theorem P_ld {K : zK} {Km : Nat} {o : Int} {F : zF} {B : zB} {Fm : zF} {Bm : zB} (h0 : 2 ≤ K.2 0) (ho : 0 ≤ o ∧ o < K.2 8) (hK : 4000 ≤ K.1) (hKm : 4000 ≤ Km) (hT : IT F B Fm Bm) : zP (f_SoundFile_load K o 0 F B) (f_M_open Km Fm Bm) (QL o (F, B, Fm, Bm)) := by
  obtain ⟨t1, t2, t3, t4, t5⟩ := hT
  unfold f_SoundFile_load f_M_open f_SoundFile_setDefaults
  rw [if_pos ho, if_pos (show (0 : Int) ≤ 0 ∧ (0 : Int) < K.2 0 by omega), if_pos (show (0 : Int) < K.2 0 by omega), if_pos ho]
  generalize hF1 : zup3 (zup3 (zup3 (zup3 (zup3 (zup3 (zup3 (zup3 F 8 o 4 0) 8 o 5 0) 8 o 6 (F 0 0 1)) 8 o 7 0) 8 o 2 0) 8 o 12 0) 8 o 13 0) 8 o 14 0 = F1
  generalize hB1 : zup4 (zup4 (zup4 (zup4 (zup4 (zup4 (zup4 B 8 o 0 0 0) 8 o 0 1 0) 8 o 0 2 0) 8 o 0 3 0) 8 o 0 4 4) 8 o 0 5 4) 8 o 0 6 120 = B1
  generalize hG1 : zup3 (zup3 (zup3 (zup3 (zup3 (zup3 (zup3 Fm 14 0 17 0) 14 0 89 0) 14 0 90 3000) 14 0 94 0) 14 0 91 0) 14 0 92 0) 14 0 93 0 = G1
  generalize hD1 : zup4 (zup4 (zup4 (zup4 (zup4 Bm 14 0 74 2 0) 14 0 74 3 0) 14 0 74 4 4) 14 0 74 5 4) 14 0 74 6 120 = D1
  have fF : ∀ c y k, ¬ (c = 8 ∧ y = o) → F1 c y k = F c y k := fun c y k n => by rw [← hF1]; rw [zup3_v, if_neg (by first | decide | omega), zup3_v, if_neg (by first | decide | omega), zup3_v, if_neg (by first | decide | omega), zup3_v, if_neg (by first | decide | omega), zup3_v, if_neg (by first | decide | omega), zup3_v, if_neg (by first | decide | omega), zup3_v, if_neg (by first | decide | omega), zup3_v, if_neg (by first | decide | omega)]
  have vF : F1 8 o 4 = 0 ∧ F1 8 o 5 = 0 ∧ F1 8 o 6 = F 0 0 1 ∧ F1 8 o 7 = 0 ∧ F1 8 o 2 = 0 ∧ F1 8 o 12 = 0 ∧ F1 8 o 13 = 0 ∧ F1 8 o 14 = 0 := by rw [← hF1]; simp [zup3_v]
  have fB : ∀ c y k x, ¬ (c = 8 ∧ y = o ∧ k = 0) → B1 c y k x = B c y k x := fun c y k x n => by rw [← hB1]; rw [zup4_v, if_neg (by first | decide | omega), zup4_v, if_neg (by first | decide | omega), zup4_v, if_neg (by first | decide | omega), zup4_v, if_neg (by first | decide | omega), zup4_v, if_neg (by first | decide | omega), zup4_v, if_neg (by first | decide | omega), zup4_v, if_neg (by first | decide | omega)]
  have vB : B1 8 o 0 2 = 0 ∧ B1 8 o 0 3 = 0 ∧ B1 8 o 0 4 = 4 ∧ B1 8 o 0 5 = 4 ∧ B1 8 o 0 6 = 120 := by rw [← hB1]; simp [zup4_v]
  have fG : ∀ c y k, ¬ (c = 14 ∧ y = 0 ∧ (k = 17 ∨ (89 ≤ k ∧ k ≤ 94))) → G1 c y k = Fm c y k := fun c y k n => by rw [← hG1]; rw [zup3_v, if_neg (by first | decide | omega), zup3_v, if_neg (by first | decide | omega), zup3_v, if_neg (by first | decide | omega), zup3_v, if_neg (by first | decide | omega), zup3_v, if_neg (by first | decide | omega), zup3_v, if_neg (by first | decide | omega), zup3_v, if_neg (by first | decide | omega)]
  have vG : G1 14 0 17 = 0 ∧ G1 14 0 89 = 0 ∧ G1 14 0 90 = 3000 ∧ G1 14 0 94 = 0 ∧ G1 14 0 91 = 0 ∧ G1 14 0 92 = 0 ∧ G1 14 0 93 = 0 := by rw [← hG1]; simp [zup3_v]
  have fD : ∀ c y k x, ¬ (c = 14 ∧ y = 0 ∧ k = 74) → D1 c y k x = Bm c y k x := fun c y k x n => by rw [← hD1]; rw [zup4_v, if_neg (by first | decide | omega), zup4_v, if_neg (by first | decide | omega), zup4_v, if_neg (by first | decide | omega), zup4_v, if_neg (by first | decide | omega), zup4_v, if_neg (by first | decide | omega)]
  have vD : D1 14 0 74 2 = 0 ∧ D1 14 0 74 3 = 0 ∧ D1 14 0 74 4 = 4 ∧ D1 14 0 74 5 = 4 ∧ D1 14 0 74 6 = 120 := by rw [← hD1]; simp [zup4_v]
  obtain ⟨B2, e1, e2, e3, _⟩ := C_sd68 (F := F1) ho 8 K.1 0 B1 (by first | decide | omega) (by first | decide | omega) (by first | decide | omega)
  rw [e1, zb_s]
  have b01 : F1 0 0 1 = F 0 0 1 := fF 0 0 1 (by first | decide | omega)
  have g03 : G1 14 0 3 = Fm 14 0 3 := fG 14 0 3 (by first | decide | omega)
  have hO : RO o F1 B2 G1 D1 := by
    refine ⟨vF.1, by rw [b01, g03]; exact ⟨t1, t2, t3⟩, fun y => by rw [e2 0 0 0 y (by first | decide | omega), fB 0 0 0 y (by first | decide | omega)]; exact t4 y, ?_⟩
    funext y
    show D1 14 0 2 y % 256 = _
    rw [fD 14 0 2 y (by first | decide | omega), e2 0 0 0 y (by first | decide | omega), fB 0 0 0 y (by first | decide | omega), ← t5]
    rfl
  have hG : RG o 0 F1 G1 := by
    unfold RG
    rw [g03]
    omega
  refine P_bind (P_lh (Km := Km) h0 ho (by first | decide | omega) (by first | decide | omega) hO (by rw [b01]; omega) hG (by first | decide | omega)) (fun r F3 B3 l G3 D3 y => ?_)
  obtain ⟨⟨k1, k2, k3, k4⟩, y⟩ := y
  have hO3 : RO o F3 B3 G3 D3 := by
    obtain ⟨o1, o2, o3, o4⟩ := hO
    refine ⟨by rw [k1 8 o 4 (by first | decide | omega)]; exact o1, by rw [k1 0 0 1 (by first | decide | omega), k2 14 0 3 (by first | decide | omega)]; exact o2, fun y => by rw [k3 0 0 0 y (by first | decide | omega)]; exact o3 y, ?_⟩
    funext y
    show D3 14 0 2 y % 256 = _
    rw [k4 14 0 2 y (by first | decide | omega), k3 0 0 0 y (by first | decide | omega)]
    exact congrFun o4 y
  have z8 : ∀ k, k ≠ 8 → (zup3 F3 8 o 8 0) 8 o k = F3 8 o k := fun k n => by rw [zup3_v, if_neg (by first | decide | omega)]
  have z01 : (zup3 F3 8 o 8 0) 0 0 1 = F3 0 0 1 := by rw [zup3_v, if_neg (by first | decide | omega)]
  have tq : TQ (zup3 F3 8 o 8 0, B3, G3, D3) := by
    refine ⟨?_, hO3.2.2.1, hO3.2.2.2⟩
    show (zup3 F3 8 o 8 0) 0 0 1 = G3 14 0 3 ∧ 0 ≤ (zup3 F3 8 o 8 0) 0 0 1 ∧ (zup3 F3 8 o 8 0) 0 0 1 ≤ 3000
    rw [z01]
    exact hO3.2.1
  have n3 := hO3.2.1
  have w : OW o (zup3 F3 8 o 8 0, B3, G3, D3) (zup3 F3 8 o 8 0) B3 G3 D3 := ⟨by rw [z8 4 (by decide)]; exact hO3.1, fun _ _ _ _ => rfl, fun _ _ _ _ _ => rfl, fun _ _ _ _ => rfl, fun _ _ _ _ _ => rfl⟩
  have key : zP (f_SoundFile_load_43 K K.1 0 o 0 (zup3 F3 8 o 8 0) B3) (f_M_open_81 Km Km 0 l G3 D3) (QL o (zup3 F3 8 o 8 0, B3, G3, D3)) := by
    rcases y with ⟨⟨m17, l0, l1⟩, hh, y⟩ | ⟨x, x6⟩
    · rcases y with ⟨g7, g5, gl⟩ | ⟨g7, gl, gz⟩
      · refine P_ll h0 ho hK hKm tq 3008 K.1 Km 0 0 l _ B3 G3 D3 (by first | decide | omega) (by first | decide | omega) (by first | decide | omega) (by first | decide | omega) (by first | decide | omega) ⟨w, ⟨?_, fun k k0 k1' => ?_, ?_⟩, ⟨by rw [z8 7 (by decide)]; exact g7, m17, by rw [z8 5 (by decide)]; exact g5, l0, by rw [z01]; exact gl⟩, ⟨by rw [zup3_v, if_pos (by first | decide | omega)], (by first | decide | omega), (by first | decide | omega)⟩⟩
        · have c0 : (zup3 F3 8 o 8 0) 8 o 2 = 0 := by rw [z8 2 (by decide), k1 8 o 2 (by first | decide | omega)]; exact vF.2.2.2.2.1
          have c1 : G3 14 0 94 = 0 := by rw [k2 14 0 94 (by first | decide | omega)]; exact vG.2.2.2.1
          unfold SND
          rw [c0, c1]
          exact ⟨(by first | decide | omega), fun i _ _ => (by first | decide | omega), fun i _ _ => (by first | decide | omega), fun i _ _ => (by first | decide | omega), fun i _ _ => (by first | decide | omega), fun i _ _ => (by first | decide | omega)⟩
        · have v : B3 8 o 3 k = -1 := by rw [k3 8 o 3 k (by first | decide | omega)]; exact e3 k k0 k1'
          rw [v]
          exact ⟨(by first | decide | omega), fun _ => (by first | decide | omega), fun _ => rfl⟩
        · unfold HD
          rw [z8 12 (by decide), z8 13 (by decide), z8 14 (by decide), k1 8 o 12 (by first | decide | omega), k1 8 o 13 (by first | decide | omega), k1 8 o 14 (by first | decide | omega), k2 14 0 91 (by first | decide | omega), k2 14 0 92 (by first | decide | omega), k2 14 0 93 (by first | decide | omega), k3 8 o 0 2 (by first | decide | omega), k3 8 o 0 3 (by first | decide | omega), k3 8 o 0 4 (by first | decide | omega), k3 8 o 0 5 (by first | decide | omega), k3 8 o 0 6 (by first | decide | omega), e2 8 o 0 2 (by first | decide | omega), e2 8 o 0 3 (by first | decide | omega), e2 8 o 0 4 (by first | decide | omega), e2 8 o 0 5 (by first | decide | omega), e2 8 o 0 6 (by first | decide | omega), k4 14 0 74 2 (by first | decide | omega), k4 14 0 74 3 (by first | decide | omega), k4 14 0 74 4 (by first | decide | omega), k4 14 0 74 5 (by first | decide | omega), k4 14 0 74 6 (by first | decide | omega)]
          omega
      · exact P_late h0 ho hK hKm tq w (by rw [z8 7 (by decide), z01]; exact g7) m17 (by rw [z01]; omega) (by first | decide | omega) (by rw [z8 5 (by decide), z8 6 (by decide), k1 8 o 6 (by first | decide | omega)]; omega)
    · have x' : RX o (zup3 F3 8 o 8 0) G3 := RX_f x (z8 5 (by decide)) (z8 6 (by decide)) (z8 7 (by decide)) rfl rfl rfl
      have x7 := x7_n x'
      obtain ⟨m, em⟩ : ∃ m, K.1 = m + 1 := ⟨K.1 - 1, (by first | decide | omega)⟩
      obtain ⟨r, er⟩ : ∃ m, Km = m + 1 := ⟨Km - 1, (by first | decide | omega)⟩
      have ec : ∀ j, f_SoundFile_load_43 K (j + 1) 0 o 0 (zup3 F3 8 o 8 0) B3 = f_SoundFile_load_169 K o (zup3 F3 8 o 8 0) B3 := fun j => by
        rw [f_SoundFile_load_43, if_pos (by decide), if_neg (by decide), if_pos ho, if_pos x7.1, if_neg x7.2]
      have e5 : ∀ j, f_M_open_81 Km (j + 1) 0 l G3 D3 = f_M_open_198 Km G3 D3 := fun j => by
        rw [f_M_open_81, L_goodX x', zb_s, if_pos (show r32 0 by decide), if_pos (show (0 : Int) = 0 from rfl)]
      have ec' := ec m
      have e5' := e5 r
      rw [← em] at ec'
      rw [← er] at e5'
      rw [ec', e5']
      exact P_okX ho w x'
  obtain ⟨r, F5, B5, r', G5, D5, u1, u2, u3, u4, ⟨v1, v2, v3, v4⟩, u5, u6⟩ := key
  refine ⟨r, F5, B5, r', G5, D5, u1, u2, u3, u4, ⟨fun c y k n => ?_, fun c y k x n => ?_, fun c y k n => ?_, fun c y k x n => ?_⟩, u5, ?_⟩
  · rw [v1 c y k n]
    show (zup3 F3 8 o 8 0) c y k = F c y k
    rw [zup3_v, if_neg (by first | decide | omega), k1 c y k (by first | decide | omega), fF c y k n]
  · rw [v2 c y k x n]
    show B3 c y k x = B c y k x
    rw [k3 c y k x (by first | decide | omega), e2 c y k x (by first | decide | omega), fB c y k x (by first | decide | omega)]
  · rw [v3 c y k n]
    show G3 c y k = Fm c y k
    rw [k2 c y k (by first | decide | omega), fG c y k (by first | decide | omega)]
  · rw [v4 c y k x n]
    show D3 c y k x = Bm c y k x
    rw [k4 c y k x (by first | decide | omega), fD c y k x (by first | decide | omega)]
  · rcases u6 with u6 | ⟨s1, s2, s3⟩
    · exact Or.inl u6
    · refine Or.inr ⟨s1, ?_, fun k x n => ?_⟩
      · rw [s2]
        show G3 14 0 72 = Fm 14 0 72
        rw [k2 14 0 72 (by first | decide | omega), fG 14 0 72 (by first | decide | omega)]
      · rw [s3 k x n]
        show D3 14 0 k x = Bm 14 0 k x
        rw [k4 14 0 k x (by first | decide | omega), fD 14 0 k x (by first | decide | omega)]
end
