section
/-! ===== spans of notes ===== -/
theorem fv_t : ∀ k : Fin 18, fv (k.val : Int) % 16 = 0 ∨ (k.val : Int) = 12 ∨ (k.val : Int) = 15 ∨ (k.val : Int) = 16 := by decide +kernel
theorem fv_g : ∀ k : Fin 18, 16 ≤ fv (k.val : Int) := by decide +kernel
theorem st_1 {n d a : Int} : 1 ≤ st n d a := by
  unfold st st5
  repeat' split
  all_goals omega
theorem mx_1 {a b : Int} (h : 1 ≤ b) : 1 ≤ mx a b := by unfold mx; split <;> omega
theorem bt_16 {n f : Int} (f16 : f % 16 = 0) : bt n 2 f (f + 16) = 1 := by
  unfold bt bt5 bc bw
  simp only [show (512 : Int) / 2 = 256 from rfl, show (256 : Int) / 2 = 128 from rfl, show (256 : Int) / 4 = 64 from rfl, show (256 : Int) / 8 = 32 from rfl, show (256 : Int) / 16 = 16 from rfl, show ¬ (8 : Int) ≤ 2 by decide, show (2 : Int) ≤ 4 by decide, false_and, if_false, if_true, Int.mul_one]
  rw [if_neg (by first | decide | omega), if_neg (by first | decide | omega), if_neg (by first | decide | omega), if_neg (by first | decide | omega), if_neg (by first | decide | omega), if_neg (by first | decide | omega), if_neg (by first | decide | omega)]
theorem bt_xy {n f x y : Int} (f16 : f % 16 = 0) (h : (x = 56 ∧ y = 64) ∨ (x = 28 ∧ y = 32) ∨ (x = 24 ∧ y = 32)) : bt n 2 f (f + y) = bt n 2 f (f + x) := by
  unfold bt bt5 bc bw
  simp only [show (512 : Int) / 2 = 256 from rfl, show (256 : Int) / 2 = 128 from rfl, show (256 : Int) / 4 = 64 from rfl, show (256 : Int) / 8 = 32 from rfl, show (256 : Int) / 16 = 16 from rfl, show ¬ (8 : Int) ≤ 2 by decide, show (2 : Int) ≤ 4 by decide, false_and, if_false, if_true, Int.mul_one]
  have h0 : (n % 2 = 0 ∧ 2 * f < 256 * n ∧ 256 * n < 2 * (f + y)) ↔ (n % 2 = 0 ∧ 2 * f < 256 * n ∧ 256 * n < 2 * (f + x)) := by omega
  have h1 : ((f / 256 + 1) * 256 < f + y) ↔ ((f / 256 + 1) * 256 < f + x) := by omega
  have h2 : ((f / 128 + 1) * 128 < f + y) ↔ ((f / 128 + 1) * 128 < f + x) := by omega
  have h3 : ((f / 64 + 1) * 64 < f + y) ↔ ((f / 64 + 1) * 64 < f + x) := by omega
  have h4 : ((f / 32 + 1) * 32 < f + y) ↔ ((f / 32 + 1) * 32 < f + x) := by omega
  have h5 : ((f / 16 + 1) * 16 < f + y) ↔ ((f / 16 + 1) * 16 < f + x) := by omega
  simp only [h0, h1, h2, h3, h4, h5]
theorem st_x {n a : Int} (h : ¬ a % 16 = 0) : st n 2 a = 1 := by
  unfold st st5 bc
  simp only [show (512 : Int) / 2 = 256 from rfl, show (256 : Int) / 2 = 128 from rfl, show (256 : Int) / 4 = 64 from rfl, show (256 : Int) / 8 = 32 from rfl, show (256 : Int) / 16 = 16 from rfl, show ¬ (8 : Int) ≤ 2 by decide, show (2 : Int) ≤ 4 by decide, false_and, if_false, if_true, Int.mul_one]
  rw [if_neg (by first | decide | omega), if_neg (by first | decide | omega), if_neg (by first | decide | omega), if_neg (by first | decide | omega), if_neg (by first | decide | omega), if_neg (by first | decide | omega), if_neg (by first | decide | omega), if_neg h]
theorem nv_16 {n f l : Int} (f16 : f % 16 = 0) (l0 : 0 < l) (l16 : l % 16 = 0) : fv (nvF n 2 f l) ≤ l ∧ fv (nvF n 2 f l) % 16 = 0 ∧ 16 ≤ fv (nvF n 2 f l) := by
  have v17 : fv 17 = 16 := by decide
  have p17 : decide (fv 17 ≤ l ∧ stnd n 2 f 17) = true := by
    refine decide_eq_true ⟨(by first | decide | omega), ?_⟩
    show bt n 2 f (f + fv 17) ≤ _
    rw [v17, bt_16 f16]
    exact mx_1 st_1
  unfold nvF
  generalize hk : fsN (fun k => decide (fv k ≤ l ∧ stnd n 2 f k)) 24 0 = k
  have nn := fsN_n (P := fun k => decide (fv k ≤ l ∧ stnd n 2 f k)) 24 (k := 0) (Int.le_refl _)
  rw [hk] at nn
  have k17 : k ≤ 17 ∧ 0 ≤ k := by
    refine ⟨?_, ?_⟩
    · rcases Int.lt_or_le 17 k with z | z
      · have := nn 17 (by first | decide | omega) (by first | decide | omega) (Or.inl z)
        have : false = true := this.symm.trans p17
        exact absurd this (by decide)
      · exact z
    · rcases Int.lt_or_le k 0 with z | z
      · have := nn 17 (by first | decide | omega) (by first | decide | omega) (Or.inr z)
        have : false = true := this.symm.trans p17
        exact absurd this (by decide)
      · exact z
  have hP : fv k ≤ l ∧ stnd n 2 f k := by
    rcases fsN_r (P := fun k => decide (fv k ≤ l ∧ stnd n 2 f k)) 24 (k := 0) (Int.le_refl _) with h | ⟨_, _, h⟩
    · rw [hk] at h; omega
    · rw [hk] at h; exact of_decide_eq_true h
  rw [if_neg (by first | decide | omega)]
  have fg := fv_g ⟨k.toNat, (by first | decide | omega)⟩
  have ft := fv_t ⟨k.toNat, (by first | decide | omega)⟩
  rw [show (((⟨k.toNat, (by first | decide | omega)⟩ : Fin 18).val : Nat) : Int) = k by show ((k.toNat : Nat) : Int) = k; omega] at fg ft
  refine ⟨hP.1, ?_, fg⟩
  have up : ∀ (x y j : Int), (x = 56 ∧ y = 64) ∨ (x = 28 ∧ y = 32) ∨ (x = 24 ∧ y = 32) → fv k = x → fv j = y → 0 ≤ j → j < k → False := fun x y j h hx hy j0 j1 => by
    have z := nn j (by first | decide | omega) (by first | decide | omega) (Or.inl j1)
    have hs : stnd n 2 f j := by
      show bt n 2 f (f + fv j) ≤ mx (st n 2 f) (st n 2 (f + fv j))
      have e2 : bt n 2 f (f + fv k) ≤ mx (st n 2 f) (st n 2 (f + fv k)) := hP.2
      have hl := hP.1
      rw [hx, ← bt_xy f16 h, st_x (a := f + x) (by first | decide | omega)] at e2
      rw [hy]
      have s1 : 1 ≤ st n 2 (f + y) := st_1
      unfold mx at e2 ⊢
      split at e2 <;> split <;> omega
    have : decide (fv j ≤ l ∧ stnd n 2 f j) = true := decide_eq_true ⟨by have := hP.1; omega, hs⟩
    rw [this] at z
    exact absurd z (by decide)
  rcases ft with h | h | h | h
  · exact h
  · exact absurd (up 56 64 11 (by first | decide | omega) (by rw [h]; decide) (by decide) (by decide) (by first | decide | omega)) (fun x => x)
  · exact absurd (up 28 32 14 (by first | decide | omega) (by rw [h]; decide) (by decide) (by decide) (by first | decide | omega)) (fun x => x)
  · exact absurd (up 24 32 14 (by first | decide | omega) (by rw [h]; decide) (by decide) (by decide) (by first | decide | omega)) (fun x => x)
/-- the least step of a note -/
def sdU (d : Int) : Int := if d = 2 then 16 else 4
theorem nv_s {n d f l : Int} (hd : d = 2 ∨ d = 4 ∨ d = 8 ∨ d = 16) (f4 : f % sdU d = 0) (l0 : 0 < l) (l4 : l % sdU d = 0) : fv (nvF n d f l) ≤ l ∧ fv (nvF n d f l) % sdU d = 0 ∧ sdU d ≤ fv (nvF n d f l) := by
  unfold sdU at *
  by_cases z : d = 2
  · subst z
    rw [if_pos rfl] at f4 l4 ⊢
    exact nv_16 f4 l0 l4
  · rw [if_neg z] at f4 l4 ⊢
    obtain ⟨a, b⟩ := nv_4 (n := n) (f := f) hd f4 l0 l4
    have kb := nvF_b (n := n) (d := d) (f := f) (l := l)
    have := fv_b kb.1 kb.2
    exact ⟨a, b, this.1⟩
/-- the value of the note at a in a span that ends at e -/
def kvF (n d b a e : Int) : Int := nvF n d (a % b) (zmin (e - a) (b - a % b))
def nxF (n d b a e : Int) : Int := a + fv (kvF n d b a e)
/-- what a bar is, and where notes stand -/
def BRs (n d b : Int) : Prop := (1 ≤ n ∧ n ≤ 12) ∧ (d = 2 ∨ d = 4 ∨ d = 8 ∨ d = 16) ∧ b = 512 / d * n
theorem BRs_b {n d b : Int} (h : BRs n d b) : 32 ≤ b ∧ b ≤ 3072 ∧ b % sdU d = 0 ∧ (d ≠ 2 → b ≤ 1536) ∧ 0 < sdU d ∧ b % 16 = 0 := by
  obtain ⟨hn, hd, hb⟩ := h
  unfold sdU
  rcases hd with rfl | rfl | rfl | rfl
  · have : b = 256 * n := hb
    simp; omega
  · have : b = 128 * n := hb
    simp; omega
  · have : b = 64 * n := hb
    simp; omega
  · have : b = 32 * n := hb
    simp; omega
theorem nx_b {n d b a e : Int} (h : BRs n d b) (a0 : 0 ≤ a) (ae : a < e) (ha : a % sdU d = 0) (he : e % sdU d = 0) : (0 ≤ kvF n d b a e ∧ kvF n d b a e < 24) ∧ a + sdU d ≤ nxF n d b a e ∧ nxF n d b a e ≤ e ∧ nxF n d b a e % sdU d = 0 ∧ nxF n d b a e ≤ (a / b + 1) * b := by
  obtain ⟨b1, b2, b3, _, b5, _⟩ := BRs_b h
  have sd : sdU d = 16 ∨ sdU d = 4 := by unfold sdU; split <;> omega
  have dm := Int.emod_add_mul_ediv a b
  have m0 := Int.emod_nonneg a (show b ≠ 0 by omega)
  have m1 := Int.emod_lt_of_pos a (show 0 < b by omega)
  have am : (a % b) % sdU d = 0 := by
    obtain ⟨j, hj⟩ : ∃ j, b = sdU d * j := ⟨b / sdU d, by rcases sd with h | h <;> rw [h] at b3 ⊢ <;> omega⟩
    have : sdU d ∣ b := ⟨j, hj⟩
    rw [Int.emod_emod_of_dvd _ this]; exact ha
  have zm : zmin (e - a) (b - a % b) ≤ e - a ∧ zmin (e - a) (b - a % b) ≤ b - a % b ∧ 0 < zmin (e - a) (b - a % b) ∧ (zmin (e - a) (b - a % b) = e - a ∨ zmin (e - a) (b - a % b) = b - a % b) := by unfold zmin; split <;> omega
  have lm : zmin (e - a) (b - a % b) % sdU d = 0 := by
    rcases zm.2.2.2 with h | h <;> rw [h] <;> rcases sd with g | g <;> rw [g] at ha he b3 am ⊢ <;> omega
  obtain ⟨q1, q2, q3⟩ := nv_s (n := n) h.2.1 am zm.2.2.1 lm
  have e1 : (a / b + 1) * b = b * (a / b) + b := by rw [Int.add_mul, Int.mul_comm, Int.one_mul]
  unfold nxF kvF
  refine ⟨nvF_b, (by first | decide | omega), (by first | decide | omega), ?_, (by first | decide | omega)⟩
  rcases sd with g | g <;> rw [g] at ha q2 ⊢ <;> omega
end
