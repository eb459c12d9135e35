section
/-! ===== strokes put in order: the reference ===== -/
def tz (B : zB) (z : Int) : Int := if z % 2 = 0 then B 14 0 63 (z / 2) else B 14 0 64 (z / 2)
def kM (B : zB) (z : Int) : Int := skV (tz B z) (1 - z % 2) (B 14 0 67 (z / 2)) (B 14 0 65 (z / 2)) (B 14 0 68 (z / 2)) (z / 2)
def SM (c : Int) (B : zB) : Prop := ∀ j, 0 ≤ j → j < c → (0 ≤ B 14 0 67 j ∧ B 14 0 67 j < 4) ∧ (0 ≤ B 14 0 68 j ∧ B 14 0 68 j < 200) ∧ (0 ≤ B 14 0 65 j ∧ B 14 0 65 j ≤ 127) ∧ (0 ≤ B 14 0 66 j ∧ B 14 0 66 j ≤ 127) ∧ 0 ≤ B 14 0 63 j ∧ B 14 0 63 j < B 14 0 64 j ∧ B 14 0 64 j ≤ 500000
theorem L_ah {K : Nat} {c z1 z2 : Int} {F : zF} {B : zB} (h : SM c B) (c1 : c ≤ 2000) (h2 : 0 ≤ z2) (h12 : z2 < z1) (h1 : z1 < 2 * c) : f_M_isAhead K z1 z2 F B = some (if kM B z1 < kM B z2 then 1 else 0, F, B) := by
  obtain ⟨a1, a2, a3, a4, a5, a6, a7⟩ := h (z1 / 2) (by first | decide | omega) (by first | decide | omega)
  obtain ⟨b1, b2, b3, b4, b5, b6, b7⟩ := h (z2 / 2) (by first | decide | omega) (by first | decide | omega)
  have d1 : zdv z1 2 = z1 / 2 := zdv_e (by first | decide | omega) (by unfold r32; omega) (by decide) (by decide)
  have d2 : zdv z2 2 = z2 / 2 := zdv_e (by first | decide | omega) (by unfold r32; omega) (by decide) (by decide)
  have m1 : zrm z1 2 = z1 % 2 := zrm_e (by first | decide | omega) (by unfold r32; omega) (by decide) (by decide)
  have m2 : zrm z2 2 = z2 % 2 := zrm_e (by first | decide | omega) (by unfold r32; omega) (by decide) (by decide)
  have e55 : f_M_isAhead K z1 z2 F B = f_M_isAhead_55 K (tz B z1) (z2 / 2) (z1 / 2) z1 z2 (tz B z2) F B := by
    unfold f_M_isAhead f_M_isAhead_30 tz
    have g1 : 0 ≤ z1 / 2 ∧ z1 / 2 < 2000 := by omega
    have g2 : 0 ≤ z2 / 2 ∧ z2 / 2 < 2000 := by omega
    have r1 : r32 (z1 % 2) := by unfold r32; omega
    have r2 : r32 (z2 % 2) := by unfold r32; omega
    rw [d1, d2, m1, m2, if_pos r1]
    by_cases x : z1 % 2 = 0
    · rw [if_pos x, if_pos x, if_pos g1, if_pos r2]
      by_cases y : z2 % 2 = 0
      · rw [if_pos y, if_pos y, if_pos g2]
      · rw [if_neg y, if_neg y, if_pos g2]
    · rw [if_neg x, if_neg x, if_pos g1, if_pos r2]
      by_cases y : z2 % 2 = 0
      · rw [if_pos y, if_pos y, if_pos g2]
      · rw [if_neg y, if_neg y, if_pos g2]
  have t1 : 0 ≤ tz B z1 ∧ tz B z1 ≤ 500000 := by unfold tz; split <;> omega
  have t2 : 0 ≤ tz B z2 ∧ tz B z2 ≤ 500000 := by unfold tz; split <;> omega
  rw [e55]
  unfold kM skV
  generalize tz B z1 = T1 at *
  generalize tz B z2 = T2 at *
  unfold f_M_isAhead_55
  rw [m1, m2, if_pos (show r32 T1 by unfold r32; omega), if_pos (show r32 T2 by unfold r32; omega), if_pos (show r32 (z1 % 2) by unfold r32; omega), if_pos (show r32 (z2 % 2) by unfold r32; omega), if_pos (show 0 ≤ z1 / 2 ∧ z1 / 2 < 2000 by omega), if_pos (show 0 ≤ z2 / 2 ∧ z2 / 2 < 2000 by omega), if_pos (show r32 (B 14 0 67 (z1 / 2)) by unfold r32; omega), if_pos (show r32 (B 14 0 67 (z2 / 2)) by unfold r32; omega), if_pos (show r32 (B 14 0 65 (z1 / 2)) by unfold r32; omega), if_pos (show r32 (B 14 0 65 (z2 / 2)) by unfold r32; omega), if_pos (show r32 (B 14 0 68 (z1 / 2)) by unfold r32; omega), if_pos (show r32 (B 14 0 68 (z2 / 2)) by unfold r32; omega)]
  unfold f_M_isAhead_196 f_M_isAhead_174 f_M_isAhead_136 f_M_isAhead_98 f_M_isAhead_76
  rw [if_pos (show (0 : Int) = 0 ∨ (0 : Int) = 1 from Or.inl rfl), if_pos (show (1 : Int) = 0 ∨ (1 : Int) = 1 from Or.inr rfl)]
  generalize B 14 0 67 (z1 / 2) = V1 at *
  generalize B 14 0 67 (z2 / 2) = V2 at *
  generalize B 14 0 65 (z1 / 2) = N1 at *
  generalize B 14 0 65 (z2 / 2) = N2 at *
  generalize B 14 0 68 (z1 / 2) = E1 at *
  generalize B 14 0 68 (z2 / 2) = E2 at *
  by_cases q1 : T1 = T2
  · rw [if_pos q1]
    by_cases q2 : z1 % 2 = z2 % 2
    · rw [if_pos q2]
      by_cases q3 : V1 = V2
      · rw [if_pos q3]
        by_cases q4 : N1 = N2
        · rw [if_pos q4]
          by_cases q5 : E2 ≤ E1
          · rw [if_pos q5, if_neg (by first | decide | omega)]
          · rw [if_neg q5, if_pos (by first | decide | omega)]
        · rw [if_neg q4]
          by_cases q5 : N2 ≤ N1
          · rw [if_pos q5, if_neg (by first | decide | omega)]
          · rw [if_neg q5, if_pos (by first | decide | omega)]
      · rw [if_neg q3]
        by_cases q5 : V2 ≤ V1
        · rw [if_pos q5, if_neg (by first | decide | omega)]
        · rw [if_neg q5, if_pos (by first | decide | omega)]
    · rw [if_neg q2]
      by_cases q5 : z1 % 2 = 1
      · rw [if_pos q5, if_pos (by first | decide | omega)]
      · rw [if_neg q5, if_neg (by first | decide | omega)]
  · rw [if_neg q1]
    by_cases q5 : T2 ≤ T1
    · rw [if_pos q5, if_neg (by first | decide | omega)]
    · rw [if_neg q5, if_pos (by first | decide | omega)]
/-- keys of different strokes differ -/
theorem kM_i {c z z' : Int} {B : zB} (h : SM c B) (c1 : c ≤ 2000) (z0 : 0 ≤ z) (z1 : z < 2 * c) (y0 : 0 ≤ z') (y1 : z' < 2 * c) (e : kM B z = kM B z') : z = z' := by
  obtain ⟨a1, a2, a3, a4, a5, a6, a7⟩ := h (z / 2) (by first | decide | omega) (by first | decide | omega)
  obtain ⟨b1, b2, b3, b4, b5, b6, b7⟩ := h (z' / 2) (by first | decide | omega) (by first | decide | omega)
  have t1 : 0 ≤ tz B z ∧ tz B z ≤ 500000 := by unfold tz; split <;> omega
  have t2 : 0 ≤ tz B z' ∧ tz B z' ≤ 500000 := by unfold tz; split <;> omega
  obtain ⟨_, _, k1, k2⟩ := skV_r (t := tz B z) (on := 1 - z % 2) (j := z / 2) t1 (by first | decide | omega) a1 a3 a2 (by first | decide | omega)
  obtain ⟨_, _, k3, k4⟩ := skV_r (t := tz B z') (on := 1 - z' % 2) (j := z' / 2) t2 (by first | decide | omega) b1 b3 b2 (by first | decide | omega)
  unfold kM at e
  rw [e] at k1 k2
  omega
/-- one stroke more is put in its place -/
theorem L_ins {K : Nat} {c w z : Int} {F : zF} {B0 : zB} {P : Int → Int} {rec : Int → Int → zF → zB → zO} (h : SM c B0) (c1 : c ≤ 2000) (z0 : 0 ≤ z) (z1 : z < 2 * c) (hP : ∀ j, 0 ≤ j → j < z → 0 ≤ P j ∧ P j < z) : ∀ (n : Nat) {t : Int} {B : zB}, 0 ≤ t → t ≤ z → t < n → (∀ y i k x, ¬ (y = 14 ∧ i = 0 ∧ k = 69) → B y i k x = B0 y i k x) → (∀ j, 0 ≤ j → j < t → B 14 0 69 j = P j) → (∀ j, t < j → j ≤ z → B 14 0 69 j = P (j - 1)) → (∀ j, t ≤ j → j < z → kM B0 z < kM B0 (P j)) → ∃ t' B', f_M_perform_138 rec K n t z w F B = rec (z + 1) w F B' ∧ 0 ≤ t' ∧ t' ≤ z ∧ (∀ y i k x, ¬ (y = 14 ∧ i = 0 ∧ k = 69) → B' y i k x = B0 y i k x) ∧ (∀ j, 0 ≤ j → j < t' → B' 14 0 69 j = P j) ∧ B' 14 0 69 t' = z ∧ (∀ j, t' < j → j ≤ z → B' 14 0 69 j = P (j - 1)) ∧ (0 < t' → kM B0 (P (t' - 1)) < kM B0 z) ∧ (t' < z → kM B0 z < kM B0 (P t')) := by
  intro n
  induction n with
  | zero => intro t B t0 _ tn; exfalso; omega
  | succ n ih =>
    intro t B t0 tz' tn hB b1 b2 b3
    have hM : SM c B := fun j j0 j1 => by
      rw [hB 14 0 67 j (by first | decide | omega), hB 14 0 68 j (by first | decide | omega), hB 14 0 65 j (by first | decide | omega), hB 14 0 66 j (by first | decide | omega), hB 14 0 63 j (by first | decide | omega), hB 14 0 64 j (by first | decide | omega)]
      exact h j j0 j1
    have hk : ∀ y, kM B y = kM B0 y := fun y => by
      unfold kM tz
      rw [hB 14 0 63 _ (by first | decide | omega), hB 14 0 64 _ (by first | decide | omega), hB 14 0 67 _ (by first | decide | omega), hB 14 0 65 _ (by first | decide | omega), hB 14 0 68 _ (by first | decide | omega)]
    have fin : (0 < t → kM B0 (P (t - 1)) < kM B0 z) → ∃ t' B', f_M_perform_182 rec K t z w F B = rec (z + 1) w F B' ∧ 0 ≤ t' ∧ t' ≤ z ∧ (∀ y i k x, ¬ (y = 14 ∧ i = 0 ∧ k = 69) → B' y i k x = B0 y i k x) ∧ (∀ j, 0 ≤ j → j < t' → B' 14 0 69 j = P j) ∧ B' 14 0 69 t' = z ∧ (∀ j, t' < j → j ≤ z → B' 14 0 69 j = P (j - 1)) ∧ (0 < t' → kM B0 (P (t' - 1)) < kM B0 z) ∧ (t' < z → kM B0 z < kM B0 (P t')) := fun hl => by
      unfold f_M_perform_182
      rw [if_pos (by first | decide | omega)]
      exact ⟨t, _, rfl, t0, tz', fun y i k x q => by rw [zup4_v, if_neg (by first | decide | omega)]; exact hB y i k x q, fun j j0 j1 => by rw [zup4_v, if_neg (by first | decide | omega)]; exact b1 j j0 j1, by rw [zup4_v, if_pos (by first | decide | omega)], fun j j0 j1 => by rw [zup4_v, if_neg (by first | decide | omega)]; exact b2 j j0 j1, hl, fun q => b3 t (Int.le_refl _) q⟩
    rw [f_M_perform_138, if_pos (by unfold r32; omega)]
    by_cases a : t ≤ 0
    · rw [if_pos a]
      exact fin (fun q => (by first | decide | omega))
    · have e1 := b1 (t - 1) (by first | decide | omega) (by first | decide | omega)
      have p1 := hP (t - 1) (by first | decide | omega) (by first | decide | omega)
      rw [if_neg a, if_pos (by first | decide | omega), e1, L_ah hM c1 p1.1 p1.2 z1, zb_s, hk, hk]
      by_cases q : kM B0 z < kM B0 (P (t - 1))
      · rw [if_pos q, if_pos (by decide), if_neg (by decide), if_pos (by first | decide | omega)]
        rw [e1]
        exact ih (t := t - 1) (by first | decide | omega) (by first | decide | omega) (by first | decide | omega) (fun y i k x q' => by rw [zup4_v, if_neg (by first | decide | omega)]; exact hB y i k x q') (fun j j0 j1 => by rw [zup4_v, if_neg (by first | decide | omega)]; exact b1 j j0 (by first | decide | omega)) (fun j j0 j1 => by
          by_cases e : j = t
          · rw [e, zup4_v, if_pos (by first | decide | omega)]
          · rw [zup4_v, if_neg (by first | decide | omega)]; exact b2 j (by first | decide | omega) j1) (fun j j0 j1 => by
          by_cases e : j = t - 1
          · rw [e]; exact q
          · exact b3 j (by first | decide | omega) j1)
      · rw [if_neg q, if_pos (by decide), if_pos rfl]
        refine fin (fun _ => ?_)
        rcases Int.lt_trichotomy (kM B0 (P (t - 1))) (kM B0 z) with y | y | y
        · exact y
        · have := kM_i h c1 p1.1 (by first | decide | omega) z0 z1 y
          omega
        · exact absurd y q
/-- strokes 0 .. l - 1 in order -/
def ZO (l : Int) (Z : Int → Int) (B0 : zB) : Prop := (∀ j, 0 ≤ j → j < l → 0 ≤ Z j ∧ Z j < l) ∧ (∀ j, 0 ≤ j → j + 1 < l → kM B0 (Z j) < kM B0 (Z (j + 1))) ∧ ∀ y, 0 ≤ y → y < l → ∃ j, 0 ≤ j ∧ j < l ∧ Z j = y
theorem L_127 {K : Nat} {c w : Int} {F : zF} {B0 : zB} (hK : 4100 ≤ K) (w0 : 0 ≤ w ∧ w < 3) (h : SM c B0) (c0 : 0 ≤ c) (c1 : c ≤ 2000) (h60 : F 13 w 60 = 2 * c) : ∀ (r n : Nat) {l : Int} {B : zB}, l + r = 2 * c → 0 ≤ l → r < n → (∀ y i k x, ¬ (y = 14 ∧ i = 0 ∧ k = 69) → B y i k x = B0 y i k x) → ZO l (B 14 0 69) B0 → ∃ B', f_M_perform_127 K n l w F B = f_M_perform_198 K K 0 w F B' ∧ (∀ y i k x, ¬ (y = 14 ∧ i = 0 ∧ k = 69) → B' y i k x = B0 y i k x) ∧ ZO (2 * c) (B' 14 0 69) B0 := by
  intro r
  induction r with
  | zero =>
    intro n l B lr l0 hn hB hZ
    obtain ⟨n, rfl⟩ : ∃ j, n = j + 1 := ⟨n - 1, (by first | decide | omega)⟩
    refine ⟨B, ?_, hB, by rw [show 2 * c = l by omega]; exact hZ⟩
    rw [f_M_perform_127, if_pos w0, if_pos (by unfold r32; omega), h60, if_pos (by unfold r32; omega), if_pos (by first | decide | omega)]
  | succ r ih =>
    intro n l B lr l0 hn hB hZ
    obtain ⟨n, rfl⟩ : ∃ j, n = j + 1 := ⟨n - 1, (by first | decide | omega)⟩
    obtain ⟨t, B1, x1, x2, x3, x4, x5, x6, x7, x8, x9⟩ := L_ins (K := K) (w := w) (F := F) (P := B 14 0 69) (rec := f_M_perform_127 K n) h c1 l0 (show l < 2 * c by omega) (fun j j0 j1 => hZ.1 j j0 j1) K (t := l) (B := B) l0 (Int.le_refl _) (by first | decide | omega) hB (fun _ _ _ => rfl) (fun j j0 j1 => (by first | decide | omega)) (fun j j0 j1 => (by first | decide | omega))
    rw [f_M_perform_127, if_pos w0, if_pos (by unfold r32; omega), h60, if_pos (by unfold r32; omega), if_neg (by first | decide | omega), x1]
    refine ih n (l := l + 1) (by first | decide | omega) (by first | decide | omega) (by first | decide | omega) x4 ⟨fun j j0 j1 => ?_, fun j j0 j1 => ?_, fun y y0 y1 => ?_⟩
    · rcases Int.lt_trichotomy j t with q | q | q
      · rw [x5 j j0 q]; have := hZ.1 j j0 (by first | decide | omega); omega
      · rw [q, x6]; omega
      · rw [x7 j q (by first | decide | omega)]; have := hZ.1 (j - 1) (by first | decide | omega) (by first | decide | omega); omega
    · rcases Int.lt_trichotomy j t with q | q | q
      · rw [x5 j j0 q]
        by_cases e : j + 1 = t
        · rw [e, x6]
          have := x8 (by first | decide | omega)
          rw [show t - 1 = j by omega] at this
          exact this
        · rw [x5 (j + 1) (by first | decide | omega) (by first | decide | omega)]
          exact hZ.2.1 j j0 (by first | decide | omega)
      · rw [q, x6, x7 (t + 1) (by first | decide | omega) (by first | decide | omega), show t + 1 - 1 = t by omega]
        exact x9 (by first | decide | omega)
      · rw [x7 j q (by first | decide | omega), x7 (j + 1) (by first | decide | omega) (by first | decide | omega), show j + 1 - 1 = (j - 1) + 1 by omega]
        exact hZ.2.1 (j - 1) (by first | decide | omega) (by first | decide | omega)
    · by_cases e : y = l
      · exact ⟨t, x2, (by first | decide | omega), by rw [x6, e]⟩
      · obtain ⟨j, j0, j1, j2⟩ := hZ.2.2 y y0 (by first | decide | omega)
        by_cases q : j < t
        · exact ⟨j, j0, (by first | decide | omega), by rw [x5 j j0 q]; exact j2⟩
        · exact ⟨j + 1, (by first | decide | omega), (by first | decide | omega), by rw [x7 (j + 1) (by first | decide | omega) (by first | decide | omega), show j + 1 - 1 = j by omega]; exact j2⟩
end
