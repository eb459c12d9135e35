section
/-! ===== brackets judged, both sides ===== -/
theorem de_128 {D : Int} (h0 : 0 < D) : 0 < de D ∧ de D ≤ WW ∧ (128 % de D = 0 ↔ D % 6350400 = 0) := by
  unfold de gc WW
  obtain ⟨d, hd⟩ : ∃ d : Nat, D = d := ⟨D.toNat, (by first | decide | omega)⟩
  rw [show D.toNat = d by omega, show (812851200 : Int).toNat = 812851200 by decide, hd]
  have g0 : 0 < Nat.gcd d 812851200 := Nat.gcd_pos_of_pos_right _ (by decide)
  obtain ⟨x, hx⟩ := Nat.gcd_dvd_right d 812851200
  obtain ⟨y, hy⟩ := Nat.gcd_dvd_left d 812851200
  generalize hg : Nat.gcd d 812851200 = g at *
  have e : (812851200 : Int) / (g : Int) = x := by
    have : (812851200 : Int) = (g : Int) * (x : Int) := by
      have := congrArg (fun n : Nat => (n : Int)) hx
      simpa using this
    rw [this]
    exact Int.mul_ediv_cancel_left _ (by first | decide | omega)
  rw [e]
  have x0 : 0 < x := by
    rcases Nat.eq_zero_or_pos x with z | z
    · rw [z, Nat.mul_zero] at hx; exact absurd hx (by decide)
    · exact z
  have xl : x ≤ 812851200 := by
    rw [hx]
    exact Nat.le_mul_of_pos_left _ g0
  refine ⟨(by first | decide | omega), (by first | decide | omega), ?_⟩
  constructor
  · intro h
    have h1 : x ∣ 128 := Int.natCast_dvd_natCast.mp (show ((x : Nat) : Int) ∣ ((128 : Nat) : Int) from Int.dvd_of_emod_eq_zero h)
    obtain ⟨t, ht⟩ := h1
    have h2 : 6350400 * t = g := by
      have : x * (6350400 * t) = x * g := by
        calc x * (6350400 * t) = 6350400 * (x * t) := by ac_rfl
          _ = 6350400 * 128 := by rw [← ht]
          _ = g * x := by rw [← hx]
          _ = x * g := Nat.mul_comm _ _
      exact Nat.eq_of_mul_eq_mul_left x0 this
    have h3 : 6350400 ∣ d := ⟨t * y, by rw [hy, ← h2]; ac_rfl⟩
    have := Nat.mod_eq_zero_of_dvd h3
    omega
  · intro h
    have h1 : 6350400 ∣ d := Nat.dvd_of_mod_eq_zero (by first | decide | omega)
    have h2 : 6350400 ∣ g := by rw [← hg]; exact Nat.dvd_gcd h1 ⟨128, by decide⟩
    obtain ⟨t, ht⟩ := h2
    have h3 : t * x = 128 := by
      have : 6350400 * (t * x) = 6350400 * 128 := by
        calc 6350400 * (t * x) = 6350400 * t * x := by ac_rfl
          _ = g * x := by rw [ht]
          _ = 6350400 * 128 := by rw [← hx]
      exact Nat.eq_of_mul_eq_mul_left (by decide) this
    have h4 : x ∣ 128 := ⟨t, by rw [← h3]; exact Nat.mul_comm _ _⟩
    exact Int.emod_eq_zero_of_dvd (show ((x : Nat) : Int) ∣ ((128 : Nat) : Int) from Int.natCast_dvd_natCast.mpr h4)
theorem bar_e {a b bar : Int} (a0 : 0 ≤ a) (h : a < b) (hb : 0 < bar) : a / bar = (b - 1) / bar ↔ b ≤ (a / bar + 1) * bar := by
  have e1 := Int.mul_ediv_add_emod a bar
  have e2 := Int.emod_nonneg a (show bar ≠ 0 by omega)
  have e3 := Int.emod_lt_of_pos a hb
  have f1 := Int.mul_ediv_add_emod (b - 1) bar
  have f2 := Int.emod_nonneg (b - 1) (show bar ≠ 0 by omega)
  have f3 := Int.emod_lt_of_pos (b - 1) hb
  have g : a / bar ≤ (b - 1) / bar := Int.ediv_le_ediv hb (by first | decide | omega)
  rw [Int.add_mul, Int.one_mul, Int.mul_comm (a / bar) bar]
  constructor
  · intro z; rw [← z] at f1; omega
  · intro z
    have : (b - 1) / bar < a / bar + 1 := by
      apply Int.ediv_lt_of_lt_mul hb
      rw [Int.add_mul, Int.one_mul, Int.mul_comm (a / bar) bar]
      omega
    omega
/-- a voice's events and places as both sides have them, ready to be judged -/
def JS (K : zK) (q v w : Int) (m : Nat) (bar : Int) (g : Int → Int) (F : zF) (B : zB) (Fm : zF) (Bm : zB) : Prop := (F 4 q 6 = m ∧ Fm 14 0 36 = m ∧ Fm 14 0 35 = v ∧ Fm 14 0 6 = w ∧ 1 ≤ m ∧ m ≤ 200) ∧ (∀ j : Int, 0 ≤ j → j < m → 1 ≤ g j) ∧ sumZ g m ≤ 100 * bar ∧ (∀ i : Nat, i < m → EVW w (B 4 q 5 i) (1000 * v + i) F B Bm ∧ F 1 (B 4 q 5 i) 0 = sumZ g i ∧ Bm 13 w 14 (1000 * v + i) = nu (sumZ g i) ∧ Bm 13 w 15 (1000 * v + i) = de (sumZ g i) ∧ F 1 (B 4 q 5 i) 1 = g i) ∧ (∀ t, 0 ≤ t → t < 200 → 0 ≤ B 4 q 5 t ∧ B 4 q 5 t < K.2 1)
/-- the bracket at event i stands -/
def BSk (q : Int) (m : Nat) (bar : Int) (g : Int → Int) (F : zF) (B : zB) (i : Nat) : Prop := F 1 (B 4 q 5 i) 5 = 0 ∨ (∃ i' : Nat, i = i' + 1 ∧ F 1 (B 4 q 5 i') 5 = F 1 (B 4 q 5 i) 5) ∨ ∃ j : Nat, i < j ∧ j ≤ m ∧ (∀ t : Nat, i ≤ t → t < j → F 1 (B 4 q 5 t) 5 = F 1 (B 4 q 5 i) 5) ∧ (j = m ∨ ¬ F 1 (B 4 q 5 j) 5 = F 1 (B 4 q 5 i) 5) ∧ sumZ g j ≤ (sumZ g i / bar + 1) * bar ∧ (sumZ g j - sumZ g i) % 6350400 = 0
theorem BSk_f {q bar : Int} {m i : Nat} {g : Int → Int} {F F' : zF} {B : zB} (h : BSk q m bar g F B i) (f : ∀ y, F' 1 y 5 = F 1 y 5) : BSk q m bar g F' B i := by
  unfold BSk at h ⊢
  simp only [f]
  exact h
/-- the bracket that begins at i ends ahead of j, for both loops -/
theorem br_j {K : zK} {Km m i : Nat} {q v w bar : Int} {g : Int → Int} {F : zF} {B : zB} {Fm : zF} {Bm : zB} (h4 : 0 ≤ q ∧ q < K.2 4) (v0 : 0 ≤ v ∧ v < 4) (w0 : 0 ≤ w ∧ w < 3) (hJ : JS K q v w m bar g F B Fm Bm) (hi : i < m) : ∀ (d n n' k : Nat), k + d = m → i < k → d < n → d < n' → ∃ j : Nat, k ≤ j ∧ j ≤ m ∧ f_Part_bracketStands_62 K n k (sumZ g k) (sumZ g i) (F 1 (B 4 q 5 i) 5) q bar F B = f_Part_bracketStands_107 K (sumZ g j) (sumZ g i) bar F B ∧ f_M_lastOuter_2 Km n' (1000 * v + k - 1) w (1000 * v + i) (1000 * v + m) Fm Bm = some (1000 * v + j - 1, Fm, Bm) ∧ (∀ t : Nat, k ≤ t → t < j → F 1 (B 4 q 5 t) 5 = F 1 (B 4 q 5 i) 5) ∧ (j = m ∨ ¬ F 1 (B 4 q 5 j) 5 = F 1 (B 4 q 5 i) 5) := by
  obtain ⟨⟨c6, c36, c35, cw, m0, m1⟩, hg, hs, he, hV⟩ := hJ
  obtain ⟨ei, _⟩ := he i hi
  have b5 := ei.2.2.2.2.2.1
  intro d
  induction d with
  | zero =>
    intro n n' k hk ik hn hn'
    obtain ⟨n, rfl⟩ : ∃ m, n = m + 1 := ⟨n - 1, (by first | decide | omega)⟩
    obtain ⟨n', rfl⟩ : ∃ m, n' = m + 1 := ⟨n' - 1, (by first | decide | omega)⟩
    refine ⟨k, (by first | decide | omega), (by first | decide | omega), ?_, ?_, fun t a b => (by first | decide | omega), Or.inl (by first | decide | omega)⟩
    · rw [f_Part_bracketStands_62, if_pos h4, if_pos (by unfold r32; omega), c6, if_pos (by unfold r32; omega), if_pos (by first | decide | omega)]
    · rw [f_M_lastOuter_2, if_pos (by unfold r32; omega), if_pos (by unfold r32; omega), if_pos (by first | decide | omega), f_M_lastOuter_32]
  | succ d ih =>
    intro n n' k hk ik hn hn'
    obtain ⟨n, rfl⟩ : ∃ m, n = m + 1 := ⟨n - 1, (by first | decide | omega)⟩
    obtain ⟨n', rfl⟩ : ∃ m, n' = m + 1 := ⟨n' - 1, (by first | decide | omega)⟩
    obtain ⟨ek, _, _, _, gk⟩ := he k (by first | decide | omega)
    have k5 := ek.2.2.2.2.2.1
    have hk' := hV k (by first | decide | omega) (by first | decide | omega)
    have r1 : r32 (F 1 (B 4 q 5 k) 5) := by unfold r32; omega
    have r2 : r32 (F 1 (B 4 q 5 i) 5) := by unfold r32; omega
    have e : 1000 * v + (k : Int) - 1 + 1 = 1000 * v + k := by omega
    have cE : f_Part_bracketStands_62 K (n + 1) k (sumZ g k) (sumZ g i) (F 1 (B 4 q 5 i) 5) q bar F B = if F 1 (B 4 q 5 k) 5 = F 1 (B 4 q 5 i) 5 then f_Part_bracketStands_62 K n ((k : Int) + 1) (sumZ g k + F 1 (B 4 q 5 k) 1) (sumZ g i) (F 1 (B 4 q 5 i) 5) q bar F B else f_Part_bracketStands_107 K (sumZ g k) (sumZ g i) bar F B := by
      rw [f_Part_bracketStands_62, if_pos h4, if_pos (by unfold r32; omega), c6, if_pos (by unfold r32; omega), if_neg (by first | decide | omega), if_pos (by first | decide | omega), if_pos hk', if_pos r1, if_pos r2]
    have mE : f_M_lastOuter_2 Km (n' + 1) (1000 * v + k - 1) w (1000 * v + i) (1000 * v + m) Fm Bm = if F 1 (B 4 q 5 k) 5 = F 1 (B 4 q 5 i) 5 then f_M_lastOuter_2 Km n' (1000 * v + k) w (1000 * v + i) (1000 * v + m) Fm Bm else some (1000 * v + k - 1, Fm, Bm) := by
      rw [f_M_lastOuter_2, e, if_pos (by unfold r32; omega), if_pos (by unfold r32; omega), if_neg (by first | decide | omega), if_pos w0, if_pos (by first | decide | omega), if_pos (by first | decide | omega), ← k5.1, ← b5.1, if_pos r1, if_pos r2]
      rfl
    rw [cE, mE]
    by_cases z : F 1 (B 4 q 5 k) 5 = F 1 (B 4 q 5 i) 5
    · rw [if_pos z, if_pos z, gk]
      obtain ⟨j, j0, j1, j2, j3, j4, j5⟩ := ih n n' (k + 1) (by first | decide | omega) (by first | decide | omega) (by first | decide | omega) (by first | decide | omega)
      rw [sumZ, show ((k + 1 : Nat) : Int) = (k : Int) + 1 by omega] at j2
      rw [show 1000 * v + ((k + 1 : Nat) : Int) - 1 = 1000 * v + k by omega] at j3
      refine ⟨j, (by first | decide | omega), j1, j2, j3, fun t a b => ?_, j5⟩
      by_cases y : t = k
      · rw [y]; exact z
      · exact j4 t (by first | decide | omega) b
    · rw [if_neg z, if_neg z]
      exact ⟨k, (by first | decide | omega), (by first | decide | omega), rfl, rfl, fun t a b => (by first | decide | omega), Or.inr z⟩
/-- what the class answers of the bracket at i -/
theorem C_107 {K : zK} {a b bar : Int} {F : zF} {B : zB} (a0 : 0 ≤ a) (h : a < b) (hb : 0 < bar) (b1 : b ≤ 1000000000000) (br : bar ≤ 1000000000000) : f_Part_bracketStands_107 K b a bar F B = some (if b ≤ (a / bar + 1) * bar ∧ (b - a) % 6350400 = 0 then 1 else 0, F, B) := by
  have q1 : 0 ≤ a / bar := Int.ediv_nonneg a0 (by first | decide | omega)
  have q2 : a / bar ≤ a := Int.ediv_le_self _ a0
  have q3 : 0 ≤ (b - 1) / bar := Int.ediv_nonneg (by first | decide | omega) (by first | decide | omega)
  have q4 : (b - 1) / bar ≤ b - 1 := Int.ediv_le_self _ (by first | decide | omega)
  have q5 := Int.emod_nonneg (b - a) (show (6350400 : Int) ≠ 0 by decide)
  have q6 := Int.emod_lt_of_pos (b - a) (show (0 : Int) < 6350400 by decide)
  unfold f_Part_bracketStands_107 f_Part_bracketStands_139 f_Part_bracketStands_140
  rw [zldv_e a0 (by first | decide | omega) hb (by first | decide | omega), zldv_e (by first | decide | omega) (by first | decide | omega) hb (by first | decide | omega), zlrm_e (by first | decide | omega) (by first | decide | omega) (by decide) (by decide), if_pos (lI_n0 hb (by unfold r64; omega)), if_pos (by unfold r64; omega), if_pos (by unfold r64; omega)]
  by_cases z : a / bar = (b - 1) / bar
  · rw [if_pos (zcmp_0.mpr z), if_pos (by unfold r64; omega)]
    have z' := (bar_e a0 h hb).mp z
    by_cases y : (b - a) % 6350400 = 0
    · rw [if_pos (zcmp_0.mpr y), if_pos (by decide), if_pos ⟨z', y⟩]
    · rw [if_neg (fun t => y (zcmp_0.mp t)), if_pos (by decide), if_neg (fun t => y t.2)]
  · rw [if_neg (fun t => z (zcmp_0.mp t)), if_pos (by decide), if_neg (fun t => z ((bar_e a0 h hb).mpr t.1))]
end
