section
/-! ===== the reference's choice of a note's value ===== -/
def fuK (k : Int) : Int := if k % 3 = 0 then 7 else if k % 3 = 1 then 3 else 1
def fdK (k : Int) : Int := zlshl 1 (k / 3) * zlshl 1 (2 - k % 3)
theorem fk_f : ∀ k : Fin 24, (1 ≤ fuK (k.val : Int) ∧ fuK (k.val : Int) ≤ 7) ∧ (1 ≤ fdK (k.val : Int) ∧ fdK (k.val : Int) ≤ 512) ∧ fdK (k.val : Int) * fv (k.val : Int) = 512 * fuK (k.val : Int) ∧ 512 = fdK (k.val : Int) * (512 / fdK (k.val : Int)) := by decide +kernel
theorem fk_i {k : Int} (h0 : 0 ≤ k) (h1 : k < 24) : (1 ≤ fuK k ∧ fuK k ≤ 7) ∧ (1 ≤ fdK k ∧ fdK k ≤ 512) ∧ fdK k * fv k = 512 * fuK k ∧ 512 = fdK k * (512 / fdK k) := by
  have h := fk_f ⟨k.toNat, (by first | decide | omega)⟩
  rw [show (((⟨k.toNat, (by first | decide | omega)⟩ : Fin 24).val : Nat) : Int) = k by show ((k.toNat : Nat) : Int) = k; omega] at h
  exact h
theorem fk_F {k : Int} (h0 : 0 ≤ k) (h1 : k < 24) : FR (fuK k) (fdK k) (X5 * fv k) := by
  obtain ⟨a, b, c, d⟩ := fk_i h0 h1
  exact FR_5 (by first | decide | omega) c (by first | decide | omega) ⟨_, d⟩
theorem fv_s : ∀ j k : Fin 24, j.val < k.val → fv (k.val : Int) < fv (j.val : Int) := by decide +kernel
theorem fv_l {j k : Int} (h0 : 0 ≤ j) (h : j < k) (h1 : k < 24) : fv k < fv j := by
  have t := fv_s ⟨j.toNat, (by first | decide | omega)⟩ ⟨k.toNat, (by first | decide | omega)⟩ (by show j.toNat < k.toNat; omega)
  rw [show (((⟨j.toNat, (by first | decide | omega)⟩ : Fin 24).val : Nat) : Int) = j by show ((j.toNat : Nat) : Int) = j; omega, show (((⟨k.toNat, (by first | decide | omega)⟩ : Fin 24).val : Nat) : Int) = k by show ((k.toNat : Nat) : Int) = k; omega] at t
  exact t
theorem fsN_a {P : Int → Bool} : ∀ (m : Nat) {j : Nat} {k : Int}, 0 ≤ k → fsN P (m + j) k = if fsN P m k < 0 then fsN P j (k + m) else fsN P m k := by
  intro m
  induction m with
  | zero => intro j k h0; rw [fsN, if_pos (by decide), Nat.zero_add]; simp
  | succ m ih =>
    intro j k h0
    rw [show m + 1 + j = (m + j) + 1 by omega, show fsN P (m + j + 1) k = if P k = true then k else fsN P (m + j) (k + 1) from rfl, show fsN P (m + 1) k = if P k = true then k else fsN P m (k + 1) from rfl]
    by_cases c : P k = true
    · rw [if_pos c, if_pos c, if_neg (by first | decide | omega)]
    · rw [if_neg c, if_neg c, ih (by first | decide | omega), show k + 1 + (m : Int) = k + ((m + 1 : Nat) : Int) by omega]
/-- the best so far, and how the reference keeps it -/
def BST (b l3 l5 : Int) (F : zF) : Prop := (b = -1 ∧ l3 = 0 ∧ l5 = 1) ∨ ((0 ≤ b ∧ b < 24) ∧ l3 = fuK b ∧ l5 = fdK b ∧ F 14 0 56 = b / 3 ∧ F 14 0 57 = 2 - b % 3)
def fvB (b : Int) : Int := if b < 0 then 0 else fv b
theorem BST_F {b l3 l5 : Int} {F : zF} (h : BST b l3 l5 F) : FR l3 l5 (X5 * fvB b) ∧ (0 ≤ fvB b ∧ fvB b ≤ 896) ∧ (-1 ≤ b ∧ b < 24) ∧ (l3 ≤ 0 ↔ b < 0) ∧ r64 l3 := by
  unfold fvB
  rcases h with ⟨rfl, rfl, rfl⟩ | ⟨hb, rfl, rfl, _⟩
  · rw [if_pos (by decide)]
    exact ⟨⟨by decide, ⟨WW, by decide⟩, by decide, by decide⟩, by decide, by decide, by decide, by decide⟩
  · rw [if_neg (by first | decide | omega)]
    have := fk_i hb.1 hb.2
    have f := fv_b hb.1 hb.2
    exact ⟨fk_F hb.1 hb.2, (by first | decide | omega), (by first | decide | omega), (by first | decide | omega), by unfold r64; omega⟩
/-- what a choice may change -/
def chF (F F' : zF) : Prop := ∀ c y k, ¬ (c = 14 ∧ y = 0 ∧ (k ≤ 1 ∨ k = 56 ∨ k = 57)) → F' c y k = F c y k
/-- what a choice stands on -/
def CHS (w n d here left asks : Int) (F : zF) : Prop := (0 ≤ w ∧ w < 3) ∧ F 13 w 4 = n ∧ F 13 w 5 = d ∧ (1 ≤ n ∧ n ≤ 12) ∧ (d = 2 ∨ d = 4 ∨ d = 8 ∨ d = 16) ∧ FR (F 14 0 52) (F 14 0 53) (X5 * left) ∧ (0 ≤ left ∧ left ≤ 10000) ∧ (asks = 0 ∨ (asks = 1 ∧ FR (F 14 0 54) (F 14 0 55) (X5 * here) ∧ (0 ≤ here ∧ here ≤ 9000)))
theorem CHS_f {w n d here left asks : Int} {F F' : zF} (h : CHS w n d here left asks F) (f : chF F F') : CHS w n d here left asks F' := by
  obtain ⟨a, b, c, e, g, i, j, k⟩ := h
  refine ⟨a, by rw [f 13 w 4 (by first | decide | omega)]; exact b, by rw [f 13 w 5 (by first | decide | omega)]; exact c, e, g, by rw [f 14 0 52 (by first | decide | omega), f 14 0 53 (by first | decide | omega)]; exact i, j, ?_⟩
  rw [f 14 0 54 (by first | decide | omega), f 14 0 55 (by first | decide | omega)]
  exact k
theorem chF_t {F F1 F2 : zF} (h : chF F F1) (h' : chF F1 F2) : chF F F2 := fun c y k n => by rw [h' c y k n, h c y k n]
/-- value k may be taken -/
abbrev chP (n d here left asks k : Int) : Prop := fv k ≤ left ∧ (asks = 0 ∨ stnd n d here k)
theorem L_fu {K : Nat} {p : Int} {F : zF} {B : zB} (hp : p = 0 ∨ p = 1 ∨ p = 2) : f_M_formUp K p F B = some (fuK (2 - p), F, B) := by
  unfold f_M_formUp f_M_formUp_22
  rcases hp with rfl | rfl | rfl
  · rw [if_pos (by decide), if_pos rfl]; rfl
  · rw [if_pos (by decide), if_neg (by decide), if_pos rfl]; rfl
  · rw [if_pos (by decide), if_neg (by decide), if_neg (by decide)]; rfl
theorem L_c18 {K m : Nat} {rec8 : Int → Int → Int → Int → Int → zF → zB → zO} {w n d here left asks p fo l5 l3 b k : Int} {F : zF} {B : zB} (hK : 812851200 < K) (hS : CHS w n d here left asks F) (hp : p = 0 ∨ p = 1 ∨ p = 2) (hf : 0 ≤ fo ∧ fo < 8) (hk : k = 3 * fo + 2 - p) (hB : BST b l3 l5 F) : ∃ F' l5' l3', f_M_choose_18 rec8 K (m + 1) p fo l5 l3 w asks F B = f_M_choose_18 rec8 K m (p + 1) fo l5' l3' w asks F' B ∧ chF F F' ∧ BST (if chP n d here left asks k ∧ fvB b < fv k then k else b) l3' l5' F' := by
  have k0 : 0 ≤ k ∧ k < 24 := by omega
  have km : k % 3 = 2 - p := by omega
  have kd : k / 3 = fo := by omega
  obtain ⟨w0, m4, m5, hn, hd, hl, hl0, ha⟩ := hS
  have hS' : CHS w n d here left asks F := ⟨w0, m4, m5, hn, hd, hl, hl0, ha⟩
  obtain ⟨bF, b0, b1, b2, b3⟩ := BST_F hB
  have fb := fv_b k0.1 k0.2
  have kF := fk_F k0.1 k0.2
  have xa : ∀ b : Int, X5 * b = 1587600 * b := fun _ => rfl
  have x1 := xa left
  have x2 := xa (fv k)
  have x3 := xa (fvB b)
  have fu : fuK (2 - p) = fuK k := by unfold fuK; rw [km]; rcases hp with rfl | rfl | rfl <;> decide
  have fd : zlshl 1 fo * zlshl 1 p = fdK k := by unfold fdK; rw [kd, km, show 2 - (2 - p) = p by omega]
  have cmp : ∀ x y : Int, r32 (if x < y then (-1 : Int) else if x = y then 0 else 1) ∧ (0 < (if x < y then (-1 : Int) else if x = y then 0 else 1) ↔ y < x) := fun x y => by
    by_cases z : x < y
    · rw [if_pos z]; exact ⟨by decide, (by first | decide | omega)⟩
    · rw [if_neg z]
      by_cases z' : x = y
      · rw [if_pos z']; exact ⟨by decide, (by first | decide | omega)⟩
      · rw [if_neg z']; exact ⟨by decide, (by first | decide | omega)⟩
  have take : ∀ G : zF, chF F G → ∃ F' l5' l3', f_M_choose_93 rec8 (f_M_choose_18 rec8 K m) K (fdK k) (fuK k) p fo w asks G B = f_M_choose_18 rec8 K m (p + 1) fo l5' l3' w asks F' B ∧ chF F F' ∧ BST k l3' l5' F' := fun G hG => by
    refine ⟨zup3 (zup3 G 14 0 56 fo) 14 0 57 p, fdK k, fuK k, rfl, fun c y t h => by rw [zup3_v, if_neg (by first | decide | omega), zup3_v, if_neg (by first | decide | omega)]; exact hG c y t h, Or.inr ⟨k0, rfl, rfl, ?_, ?_⟩⟩
    · rw [zup3_v, if_neg (by first | decide | omega), zup3_v, if_pos (by first | decide | omega), kd]
    · rw [zup3_v, if_pos (by first | decide | omega), km]; omega
  have skip : ∀ G : zF, chF F G → G 14 0 56 = F 14 0 56 → G 14 0 57 = F 14 0 57 → ∃ F' l5' l3', f_M_choose_112 rec8 (f_M_choose_18 rec8 K m) K p fo l5 l3 w asks G B = f_M_choose_18 rec8 K m (p + 1) fo l5' l3' w asks F' B ∧ chF F F' ∧ BST b l3' l5' F' := fun G hG h6 h7 => by
    refine ⟨G, l5, l3, rfl, hG, ?_⟩
    rcases hB with h | ⟨h1, h2, h3, h4, h5⟩
    · exact Or.inl h
    · exact Or.inr ⟨h1, h2, h3, by rw [h6]; exact h4, by rw [h7]; exact h5⟩
  rw [f_M_choose_18, if_pos (by unfold r32; omega), if_neg (by first | decide | omega), L_fu hp, zb_s, f_M_formDown, zb_s, fu, fd, L_cmpR hK kF hl (by first | decide | omega) (by first | decide | omega), zb_s, if_pos (cmp _ _).1]
  by_cases c1 : fv k ≤ left
  case neg =>
    rw [if_pos ((cmp _ _).2.mpr (by first | decide | omega)), if_neg (fun h => c1 h.1.1)]
    exact skip F (fun _ _ _ _ => rfl) rfl rfl
  rw [if_neg (fun h => by have := (cmp _ _).2.mp h; omega), L_cmpR hK kF bF (by first | decide | omega) (by first | decide | omega), zb_s, if_pos (cmp _ _).1]
  by_cases c2 : fvB b < fv k
  case neg =>
    rw [if_neg (fun h => by have := (cmp _ _).2.mp h; omega), if_neg (fun h => c2 h.2)]
    exact skip F (fun _ _ _ _ => rfl) rfl rfl
  rw [if_pos ((cmp _ _).2.mpr (by first | decide | omega))]
  rcases ha with rfl | ⟨rfl, ha, h0⟩
  · rw [if_pos (by decide), if_pos rfl, if_pos ⟨⟨c1, Or.inl rfl⟩, c2⟩]
    exact take F (fun _ _ _ _ => rfl)
  · rw [if_pos (by decide), if_neg (by decide), L_stands hK w0 m4 m5 hn hd ha kF h0.1 (by first | decide | omega) (by first | decide | omega) (by first | decide | omega), zb_s]
    have gf : chF F (fr F (X5 * (here + fv k))) := fun c y t h => fr_n (by first | decide | omega)
    by_cases s : stnd n d here k
    · have s' : bt n d here (here + fv k) ≤ mx (st n d here) (st n d (here + fv k)) := s
      rw [if_pos s', if_pos (by decide), if_neg (by decide), if_pos ⟨⟨c1, Or.inr s⟩, c2⟩]
      exact take _ gf
    · have s' : ¬ bt n d here (here + fv k) ≤ mx (st n d here) (st n d (here + fv k)) := s
      rw [if_neg s', if_pos (by decide), if_pos rfl, if_neg (fun h => by rcases h.1.2 with y | y; exact absurd y (by decide); exact s y)]
      exact skip _ gf (fr_n (by first | decide | omega)) (fr_n (by first | decide | omega))
theorem L_ch8 {K : Nat} {w n d here left asks : Int} {B : zB} (hK : 812851200 < K) : ∀ (r m fo : Nat) {l5 l3 : Int} {F : zF}, fo + r = 8 → r < m → CHS w n d here left asks F → BST (fsN (fun k => decide (chP n d here left asks k)) (3 * fo) 0) l3 l5 F → ∃ F', f_M_choose_8 K m fo l5 l3 w asks F B = some (if fsN (fun k => decide (chP n d here left asks k)) 24 0 < 0 then 0 else 1, F', B) ∧ chF F F' ∧ (0 ≤ fsN (fun k => decide (chP n d here left asks k)) 24 0 → F' 14 0 56 = fsN (fun k => decide (chP n d here left asks k)) 24 0 / 3 ∧ F' 14 0 57 = 2 - fsN (fun k => decide (chP n d here left asks k)) 24 0 % 3) := by
  intro r
  induction r with
  | zero =>
    intro m fo l5 l3 F hr hm hS hB
    obtain ⟨m, rfl⟩ : ∃ j, m = j + 1 := ⟨m - 1, (by first | decide | omega)⟩
    obtain rfl : fo = 8 := by omega
    obtain ⟨_, _, _, b2, b3⟩ := BST_F hB
    refine ⟨F, ?_, fun _ _ _ _ => rfl, fun h => ?_⟩
    · rw [f_M_choose_8, if_pos (by decide), if_pos (by decide), if_pos b3]
      unfold f_M_choose_135
      by_cases c : l3 ≤ 0
      · rw [if_pos (zcmp_m.mpr c), if_pos (by decide), if_pos (b2.mp c)]
      · rw [if_neg (fun h => c (zcmp_m.mp h)), if_pos (by decide), if_neg (fun h => c (b2.mpr h))]
    · rcases hB with ⟨h1, _⟩ | ⟨_, _, _, h4, h5⟩
      · exact absurd (show (0 : Int) ≤ -1 by rw [← h1]; exact h) (by decide)
      · exact ⟨h4, h5⟩
  | succ r ih =>
    intro m fo l5 l3 F hr hm hS hB
    obtain ⟨m, rfl⟩ : ∃ j, m = j + 1 := ⟨m - 1, (by first | decide | omega)⟩
    obtain ⟨j, hj⟩ : ∃ j, K = j + 1 + 1 + 1 + 1 := ⟨K - 4, (by first | decide | omega)⟩
    obtain ⟨G1, a5, a3, e1, f1, B1⟩ := L_c18 (m := j + 1 + 1 + 1) (rec8 := f_M_choose_8 K m) (p := 0) (fo := fo) (k := 3 * fo + 2) (B := B) hK hS (Or.inl rfl) (by first | decide | omega) (by first | decide | omega) hB
    obtain ⟨G2, c5, c3, e2, f2, B2⟩ := L_c18 (m := j + 1 + 1) (rec8 := f_M_choose_8 K m) (p := 1) (fo := fo) (k := 3 * fo + 1) (B := B) hK (CHS_f hS f1) (Or.inr (Or.inl rfl)) (by first | decide | omega) (by first | decide | omega) B1
    obtain ⟨G3, d5, d3, e3, f3, B3⟩ := L_c18 (m := j + 1) (rec8 := f_M_choose_8 K m) (p := 2) (fo := fo) (k := 3 * fo) (B := B) hK (CHS_f hS (chF_t f1 f2)) (Or.inr (Or.inr rfl)) (by first | decide | omega) (by first | decide | omega) B2
    have F3 := chF_t f1 (chF_t f2 f3)
    have fin : fsN (fun k => decide (chP n d here left asks k)) (3 * (fo + 1)) 0 = (if chP n d here left asks (3 * fo) ∧ fvB (if chP n d here left asks (3 * fo + 1) ∧ fvB (if chP n d here left asks (3 * fo + 2) ∧ fvB (fsN (fun k => decide (chP n d here left asks k)) (3 * fo) 0) < fv (3 * fo + 2) then 3 * fo + 2 else fsN (fun k => decide (chP n d here left asks k)) (3 * fo) 0) < fv (3 * fo + 1) then 3 * fo + 1 else (if chP n d here left asks (3 * fo + 2) ∧ fvB (fsN (fun k => decide (chP n d here left asks k)) (3 * fo) 0) < fv (3 * fo + 2) then 3 * fo + 2 else fsN (fun k => decide (chP n d here left asks k)) (3 * fo) 0)) < fv (3 * fo) then 3 * (fo : Int) else (if chP n d here left asks (3 * fo + 1) ∧ fvB (if chP n d here left asks (3 * fo + 2) ∧ fvB (fsN (fun k => decide (chP n d here left asks k)) (3 * fo) 0) < fv (3 * fo + 2) then 3 * fo + 2 else fsN (fun k => decide (chP n d here left asks k)) (3 * fo) 0) < fv (3 * fo + 1) then 3 * fo + 1 else (if chP n d here left asks (3 * fo + 2) ∧ fvB (fsN (fun k => decide (chP n d here left asks k)) (3 * fo) 0) < fv (3 * fo + 2) then 3 * fo + 2 else fsN (fun k => decide (chP n d here left asks k)) (3 * fo) 0))) := by
      have l1 := fv_l (j := 3 * fo) (k := 3 * fo + 1) (by first | decide | omega) (by first | decide | omega) (by first | decide | omega)
      have l2 := fv_l (j := 3 * fo + 1) (k := 3 * fo + 2) (by first | decide | omega) (by first | decide | omega) (by first | decide | omega)
      have l0 := fv_b (k := 3 * fo + 2) (by first | decide | omega) (by first | decide | omega)
      rw [show 3 * (fo + 1) = 3 * fo + 3 by omega, fsN_a (3 * fo) (Int.le_refl _)]
      rcases fsN_r (P := fun k => decide (chP n d here left asks k)) (3 * fo) (k := 0) (Int.le_refl _) with z | ⟨z1, z2, _⟩
      · rw [z, if_pos (by decide), show (0 : Int) + ((3 * fo : Nat) : Int) = 3 * fo by omega]
        have fm1 : fvB (-1) = 0 := rfl
        have p2 : fvB (3 * (fo : Int) + 2) = fv (3 * fo + 2) := if_neg (by first | decide | omega)
        have p1 : fvB (3 * (fo : Int) + 1) = fv (3 * fo + 1) := if_neg (by first | decide | omega)
        unfold fsN fsN fsN fsN
        rw [show (3 : Int) * fo + 1 + 1 = 3 * fo + 2 by omega]
        by_cases q2 : chP n d here left asks (3 * fo + 2)
        · rw [if_pos (show chP n d here left asks (3 * fo + 2) ∧ fvB (-1) < fv (3 * fo + 2) from ⟨q2, (by first | decide | omega)⟩)]
          by_cases q1 : chP n d here left asks (3 * fo + 1)
          · rw [if_pos (show chP n d here left asks (3 * fo + 1) ∧ fvB (3 * fo + 2) < fv (3 * fo + 1) from ⟨q1, (by first | decide | omega)⟩)]
            by_cases q0 : chP n d here left asks (3 * fo)
            · rw [if_pos (show chP n d here left asks (3 * fo) ∧ fvB (3 * fo + 1) < fv (3 * fo) from ⟨q0, (by first | decide | omega)⟩), if_pos (decide_eq_true q0)]
            · rw [if_neg (show ¬ (chP n d here left asks (3 * fo) ∧ fvB (3 * fo + 1) < fv (3 * fo)) from fun h => q0 h.1), if_neg (show ¬ decide (chP n d here left asks (3 * fo)) = true from fun h => q0 (of_decide_eq_true h)), if_pos (decide_eq_true q1)]
          · rw [if_neg (show ¬ (chP n d here left asks (3 * fo + 1) ∧ fvB (3 * fo + 2) < fv (3 * fo + 1)) from fun h => q1 h.1)]
            by_cases q0 : chP n d here left asks (3 * fo)
            · rw [if_pos (show chP n d here left asks (3 * fo) ∧ fvB (3 * fo + 2) < fv (3 * fo) from ⟨q0, (by first | decide | omega)⟩), if_pos (decide_eq_true q0)]
            · rw [if_neg (show ¬ (chP n d here left asks (3 * fo) ∧ fvB (3 * fo + 2) < fv (3 * fo)) from fun h => q0 h.1), if_neg (show ¬ decide (chP n d here left asks (3 * fo)) = true from fun h => q0 (of_decide_eq_true h)), if_neg (show ¬ decide (chP n d here left asks (3 * fo + 1)) = true from fun h => q1 (of_decide_eq_true h)), if_pos (decide_eq_true q2)]
        · rw [if_neg (show ¬ (chP n d here left asks (3 * fo + 2) ∧ fvB (-1) < fv (3 * fo + 2)) from fun h => q2 h.1)]
          by_cases q1 : chP n d here left asks (3 * fo + 1)
          · rw [if_pos (show chP n d here left asks (3 * fo + 1) ∧ fvB (-1) < fv (3 * fo + 1) from ⟨q1, (by first | decide | omega)⟩)]
            by_cases q0 : chP n d here left asks (3 * fo)
            · rw [if_pos (show chP n d here left asks (3 * fo) ∧ fvB (3 * fo + 1) < fv (3 * fo) from ⟨q0, (by first | decide | omega)⟩), if_pos (decide_eq_true q0)]
            · rw [if_neg (show ¬ (chP n d here left asks (3 * fo) ∧ fvB (3 * fo + 1) < fv (3 * fo)) from fun h => q0 h.1), if_neg (show ¬ decide (chP n d here left asks (3 * fo)) = true from fun h => q0 (of_decide_eq_true h)), if_pos (decide_eq_true q1)]
          · rw [if_neg (show ¬ (chP n d here left asks (3 * fo + 1) ∧ fvB (-1) < fv (3 * fo + 1)) from fun h => q1 h.1)]
            by_cases q0 : chP n d here left asks (3 * fo)
            · rw [if_pos (show chP n d here left asks (3 * fo) ∧ fvB (-1) < fv (3 * fo) from ⟨q0, (by first | decide | omega)⟩), if_pos (decide_eq_true q0)]
            · rw [if_neg (show ¬ (chP n d here left asks (3 * fo) ∧ fvB (-1) < fv (3 * fo)) from fun h => q0 h.1), if_neg (show ¬ decide (chP n d here left asks (3 * fo)) = true from fun h => q0 (of_decide_eq_true h)), if_neg (show ¬ decide (chP n d here left asks (3 * fo + 1)) = true from fun h => q1 (of_decide_eq_true h)), if_neg (show ¬ decide (chP n d here left asks (3 * fo + 2)) = true from fun h => q2 (of_decide_eq_true h))]
      · generalize fsN (fun k => decide (chP n d here left asks k)) (3 * fo) 0 = b at *
        have g0 := fv_l (j := b) (k := 3 * fo) z1 (by first | decide | omega) (by first | decide | omega)
        have gb : fvB b = fv b := if_neg (by first | decide | omega)
        rw [if_neg (show ¬ b < 0 by omega), if_neg (show ¬ (chP n d here left asks (3 * fo + 2) ∧ fvB b < fv (3 * fo + 2)) from fun h => (by first | decide | omega)), if_neg (show ¬ (chP n d here left asks (3 * fo + 1) ∧ fvB b < fv (3 * fo + 1)) from fun h => (by first | decide | omega)), if_neg (show ¬ (chP n d here left asks (3 * fo) ∧ fvB b < fv (3 * fo)) from fun h => (by first | decide | omega))]
    rw [← fin] at B3
    obtain ⟨F', e4, f4, h4⟩ := ih m (fo + 1) (by first | decide | omega) (by first | decide | omega) (CHS_f hS F3) B3
    refine ⟨F', ?_, chF_t F3 f4, h4⟩
    rw [f_M_choose_8, if_pos (by unfold r32; omega), if_neg (by first | decide | omega), show f_M_choose_18 (f_M_choose_8 K m) K K = f_M_choose_18 (f_M_choose_8 K m) K (j + 1 + 1 + 1 + 1) by rw [← hj], e1, show (0 : Int) + 1 = 1 by decide, e2, show (1 : Int) + 1 = 2 by decide, e3, f_M_choose_18, if_pos (by decide), if_pos (by decide), ← e4]
    rfl
theorem L_choose {K : Nat} {w n d here left asks : Int} {F : zF} {B : zB} (hK : 812851200 < K) (hS : CHS w n d here left asks F) : ∃ F', f_M_choose K w asks F B = some (if fsN (fun k => decide (chP n d here left asks k)) 24 0 < 0 then 0 else 1, F', B) ∧ chF F F' ∧ (0 ≤ fsN (fun k => decide (chP n d here left asks k)) 24 0 → F' 14 0 56 = fsN (fun k => decide (chP n d here left asks k)) 24 0 / 3 ∧ F' 14 0 57 = 2 - fsN (fun k => decide (chP n d here left asks k)) 24 0 % 3) :=
  L_ch8 hK 8 K 0 (by decide) (by first | decide | omega) hS (Or.inl ⟨rfl, rfl, rfl⟩)
end
