section
/-! ===== the walkers of both sides: what is alike, what may change ===== -/
def ownE (B : zB) (q y : Int) : Prop := ∃ i, 0 ≤ i ∧ i < 200 ∧ B 4 q 5 i = y
def inJ (q : Int) (B : zB) : Prop := ∀ t t', 0 ≤ t → t < 200 → 0 ≤ t' → t' < 200 → B 4 q 5 t = B 4 q 5 t' → t = t'
/-- one event -/
def EVW (w e x : Int) (F : zF) (B Bm : zB) : Prop := (1 ≤ F 1 e 2 ∧ F 1 e 2 ≤ 1024) ∧ (F 1 e 3 = Bm 13 w 24 x ∧ 1 ≤ F 1 e 3 ∧ F 1 e 3 ≤ 81) ∧ (F 1 e 4 = Bm 13 w 23 x ∧ 1 ≤ F 1 e 4 ∧ F 1 e 4 ≤ 81) ∧ (∃ z, 6350400 = F 1 e 3 * z ∧ F 1 e 1 = z * F 1 e 2 * F 1 e 4) ∧ (Bm 13 w 16 x = nu (F 1 e 1) ∧ Bm 13 w 17 x = de (F 1 e 1) ∧ 1 ≤ F 1 e 1 ∧ F 1 e 1 ≤ 600000000000) ∧ (F 1 e 5 = Bm 13 w 25 x ∧ 0 ≤ F 1 e 5 ∧ F 1 e 5 ≤ 5000) ∧ (0 ≤ Bm 13 w 22 x ∧ Bm 13 w 22 x ≤ 2 ∧ (F 1 e 5 = 0 ↔ Bm 13 w 22 x = 0) ∧ (F 1 e 5 = 0 → F 1 e 3 = 1 ∧ F 1 e 4 = 1)) ∧ (0 < F 1 e 5 → F 1 e 6 = Bm 14 0 8 (Bm 13 w 26 x) ∧ 0 ≤ Bm 13 w 26 x ∧ Bm 13 w 26 x ≤ 3000 ∧ 0 ≤ F 1 e 6 ∧ F 1 e 6 ≤ 3000) ∧ (F 1 e 7 = Bm 13 w 18 x ∧ 0 ≤ F 1 e 7 ∧ F 1 e 7 < 128) ∧ (F 1 e 8 = Bm 13 w 19 x ∧ 0 ≤ F 1 e 8 ∧ F 1 e 8 ≤ 7) ∧ (F 1 e 9 = Bm 14 0 8 (Bm 13 w 20 x) ∧ 0 ≤ Bm 13 w 20 x ∧ Bm 13 w 20 x ≤ 3000 ∧ 0 ≤ F 1 e 9 ∧ F 1 e 9 ≤ 3000) ∧ EPR e x w (F 1 e 10) F B Bm
/-- the brackets around -/
def TPL (b tf ts : Int) (Bm : zB) : Prop := (∀ k, 0 ≤ k → k < b → (2 ≤ Bm 14 0 46 k ∧ Bm 14 0 46 k ≤ 9) ∧ (1 ≤ Bm 14 0 47 k ∧ Bm 14 0 47 k ≤ 9)) ∧ (1 ≤ tf ∧ tf ≤ 81) ∧ (1 ≤ ts ∧ ts ≤ 81) ∧ (b = 0 → tf = 1 ∧ ts = 1) ∧ (b = 1 → tf = Bm 14 0 46 0 ∧ ts = Bm 14 0 47 0) ∧ (b = 2 → tf = Bm 14 0 46 0 * Bm 14 0 46 1 ∧ ts = Bm 14 0 47 0 * Bm 14 0 47 1)
def WS (q v w bar : Int) (D : Nat) (F : zF) (B : zB) (Fm : zF) (Bm : zB) : Prop :=
  (F 11 0 0 = 0 ∧ F 11 0 1 = q ∧ F 11 0 2 = 0 ∧ Fm 14 0 17 = 0) ∧
  (Fm 14 0 35 = v ∧ Fm 14 0 6 = w ∧ F 11 0 13 = bar ∧ F 11 0 12 = 100 * bar) ∧
  (F 11 0 3 = Fm 14 0 37 ∧ 0 ≤ F 11 0 3 ∧ F 11 0 3 ≤ 5000) ∧
  (F 11 0 4 = Fm 14 0 40 ∧ 0 ≤ F 11 0 4 ∧ F 11 0 4 ≤ 7) ∧
  (F 11 0 5 = Fm 14 0 41 ∧ 0 ≤ F 11 0 5 ∧ F 11 0 5 ≤ D) ∧
  (F 11 0 6 = Fm 14 0 48 ∧ 0 ≤ F 11 0 6 ∧ F 11 0 6 ≤ D) ∧
  (F 11 0 7 = Fm 14 0 50 ∧ 0 ≤ F 11 0 7 ∧ F 11 0 7 ≤ F 11 0 3) ∧
  (0 < F 11 0 6 → 1 ≤ F 11 0 7 ∧ F 11 0 8 = Bm 14 0 8 (Fm 14 0 49) ∧ 0 ≤ Fm 14 0 49 ∧ Fm 14 0 49 ≤ 3000 ∧ 0 ≤ F 11 0 8 ∧ F 11 0 8 ≤ 3000) ∧
  TPL (F 11 0 6) (F 11 0 9) (F 11 0 10) Bm ∧
  (Fm 14 0 38 = nu (F 11 0 11) ∧ Fm 14 0 39 = de (F 11 0 11) ∧ 0 ≤ F 11 0 11 ∧ F 11 0 11 ≤ 100 * bar) ∧
  (∀ k, 0 ≤ k → k < 4 → B 11 0 14 k = Bm 14 0 51 (prN k) ∧ -(3 * (D : Int)) ≤ B 11 0 14 k ∧ B 11 0 14 k ≤ 3 * (D : Int)) ∧
  (F 11 0 18 = Fm 14 0 45 ∧ 0 ≤ F 11 0 18 ∧ F 11 0 18 ≤ D ∧ ∀ k, 0 ≤ k → k < F 11 0 18 → CRk B Bm k) ∧
  (F 4 q 6 = Fm 14 0 36 ∧ 0 ≤ F 4 q 6 ∧ F 4 q 6 ≤ 200 ∧ ∀ i, 0 ≤ i → i < F 4 q 6 → EVW w (B 4 q 5 i) (1000 * v + i) F B Bm)
/-- both have told the same fault; what is left to do comes to nothing -/
def WE (D : Nat) (q v w : Int) (F : zF) (Fm : zF) : Prop := F 11 0 0 = 0 ∧ F 11 0 1 = q ∧ F 11 0 2 = Fm 14 0 17 + 16 * Fm 14 0 18 ∧ bad Fm ∧ (0 ≤ Fm 14 0 18 ∧ Fm 14 0 18 ≤ 3000) ∧ Fm 14 0 35 = v ∧ Fm 14 0 6 = w ∧ (0 ≤ F 4 q 6 ∧ F 4 q 6 ≤ 200) ∧ (0 ≤ Fm 14 0 36 ∧ Fm 14 0 36 ≤ 200) ∧ (0 ≤ F 11 0 3 ∧ F 11 0 3 + D ≤ 5100)
def sumZ (g : Int → Int) : Nat → Int
  | 0 => 0
  | n + 1 => sumZ g n + g n
/-- how far the walk has come, less all lengths -/
def SD (q : Int) (F : zF) (B : zB) : Int := F 11 0 11 - sumZ (fun j => F 1 (B 4 q 5 j) 1) (F 4 q 6).toNat
theorem sumZ_c {g h : Int → Int} : ∀ {n : Nat}, (∀ j : Int, 0 ≤ j → j < n → g j = h j) → sumZ g n = sumZ h n := by
  intro n
  induction n with
  | zero => intro _; rfl
  | succ n ih => intro e; rw [sumZ, sumZ, ih (fun j a b => e j a (by first | decide | omega)), e n (by first | decide | omega) (by first | decide | omega)]
theorem sumZ_f {g : Int → Int} : ∀ {n : Nat}, sumZ g (n + 1) = g 0 + sumZ (fun k => g (k + 1)) n := by
  intro n
  induction n with
  | zero => rw [sumZ, sumZ, sumZ]; show 0 + g 0 = g 0 + 0; omega
  | succ n ih => rw [sumZ, ih, sumZ, Int.add_assoc]; rfl
theorem sumZ_a {g : Int → Int} {a : Nat} : ∀ {n : Nat}, sumZ g (a + n) = sumZ g a + sumZ (fun k => g (a + k)) n := by
  intro n
  induction n with
  | zero => rw [sumZ, Int.add_zero]; rfl
  | succ n ih => rw [← Nat.add_assoc, sumZ, ih, sumZ, Int.add_assoc, show ((a + n : Nat) : Int) = (a : Int) + n by omega]
theorem sumZ_r {f : Int → Int} : ∀ {n : Nat}, sumZ (fun k => f (n - 1 - k)) n = sumZ f n := by
  intro n
  induction n with
  | zero => rfl
  | succ n ih =>
    rw [sumZ_f, sumZ, show f (((n + 1 : Nat) : Int) - 1 - 0) = f n by rw [show ((n + 1 : Nat) : Int) - 1 - 0 = n by omega], ← ih, Int.add_comm]
    congr 1
    exact sumZ_c (fun j _ _ => by rw [show ((n + 1 : Nat) : Int) - 1 - (j + 1) = (n : Int) - 1 - j by omega])
theorem SD_c {q : Int} {F F' : zF} {B B' : zB} (h1 : F' 11 0 11 = F 11 0 11) (h2 : F' 4 q 6 = F 4 q 6) (h : 0 ≤ F 4 q 6 ∧ F 4 q 6 ≤ 200) (h3 : ∀ j, 0 ≤ j → j < 200 → F' 1 (B' 4 q 5 j) 1 = F 1 (B 4 q 5 j) 1) : SD q F' B' = SD q F B := by
  unfold SD
  rw [h1, h2, sumZ_c (fun j a b => h3 j a (by first | decide | omega))]
def inV (v w : Int) (c : Nat) (i : Int) (k : Nat) (x : Int) : Prop := c = 13 ∧ i = w ∧ ((16 ≤ k ∧ k ≤ 26 ∧ 1000 * v ≤ x ∧ x < 1000 * v + 1000) ∨ (28 ≤ k ∧ k ≤ 29 ∧ 6000 * v ≤ x ∧ x < 6000 * v + 6000))
def WFR (q v w : Int) (F : zF) (B : zB) (Fm : zF) (Bm : zB) (F' : zF) (B' : zB) (Fm' : zF) (Bm' : zB) : Prop :=
  (∀ c y k, ¬ (c = 11 ∧ y = 0) → ¬ (c = 4 ∧ y = q ∧ k = 6) → ¬ (c = 1 ∧ ownE B q y) → F' c y k = F c y k) ∧
  (∀ c y k x, ¬ (c = 11 ∧ y = 0) → ¬ (c = 4 ∧ y = q ∧ k = 5) → ¬ (c = 1 ∧ ownE B q y) → B' c y k x = B c y k x) ∧
  (∀ y, ownE B' q y ↔ ownE B q y) ∧
  (∀ c i k, ¬ (c = 14 ∧ i = 0 ∧ (k ≤ 1 ∨ k = 17 ∨ k = 18 ∨ (36 ≤ k ∧ k ≤ 50))) → Fm' c i k = Fm c i k) ∧
  (∀ c i k x, ¬ (c = 14 ∧ i = 0 ∧ 42 ≤ k ∧ k ≤ 51) → ¬ inV v w c i k x → Bm' c i k x = Bm c i k x) ∧
  (inJ q B → inJ q B' ∧ (0 ≤ F 4 q 6 ∧ F 4 q 6 ≤ 200 → (0 ≤ F' 4 q 6 ∧ F' 4 q 6 ≤ 200) ∧ SD q F' B' = SD q F B))
theorem WFR_r {q v w : Int} {F : zF} {B : zB} {Fm : zF} {Bm : zB} : WFR q v w F B Fm Bm F B Fm Bm := ⟨fun _ _ _ _ _ _ => rfl, fun _ _ _ _ _ _ _ => rfl, fun _ => Iff.rfl, fun _ _ _ _ => rfl, fun _ _ _ _ _ _ => rfl, fun h => ⟨h, fun c => ⟨c, rfl⟩⟩⟩
theorem WFR_t {q v w : Int} {F F1 F2 : zF} {B B1 B2 : zB} {Fm Fm1 Fm2 : zF} {Bm Bm1 Bm2 : zB} (h : WFR q v w F B Fm Bm F1 B1 Fm1 Bm1) (h' : WFR q v w F1 B1 Fm1 Bm1 F2 B2 Fm2 Bm2) : WFR q v w F B Fm Bm F2 B2 Fm2 Bm2 :=
  ⟨fun c y k a b d => by rw [h'.1 c y k a b (fun z => d ⟨z.1, (h.2.2.1 y).mp z.2⟩), h.1 c y k a b d], fun c y k x a b d => by rw [h'.2.1 c y k x a b (fun z => d ⟨z.1, (h.2.2.1 y).mp z.2⟩), h.2.1 c y k x a b d], fun y => (h'.2.2.1 y).trans (h.2.2.1 y), fun c i k a => by rw [h'.2.2.2.1 c i k a, h.2.2.2.1 c i k a], fun c i k x a b => by rw [h'.2.2.2.2.1 c i k x a b, h.2.2.2.2.1 c i k x a b], fun z => ⟨(h'.2.2.2.2.2 (h.2.2.2.2.2 z).1).1, fun c => by
    obtain ⟨c1, e1⟩ := (h.2.2.2.2.2 z).2 c
    obtain ⟨c2, e2⟩ := (h'.2.2.2.2.2 (h.2.2.2.2.2 z).1).2 c1
    exact ⟨c2, by rw [e2, e1]⟩⟩⟩
/-- what a walk gives back as it was -/
def WKP (q : Int) (F : zF) (B : zB) (Fm : zF) (Bm : zB) (F' : zF) (B' : zB) (Fm' : zF) (Bm' : zB) : Prop := (F' 11 0 5 = F 11 0 5 ∧ F' 11 0 6 = F 11 0 6 ∧ F' 11 0 9 = F 11 0 9 ∧ F' 11 0 10 = F 11 0 10 ∧ F' 11 0 18 = F 11 0 18) ∧ (∀ k, 0 ≤ k → k < 4 → B' 11 0 14 k = B 11 0 14 k) ∧ (∀ k, 0 ≤ k → k < F 11 0 18 → B' 11 0 15 k = B 11 0 15 k ∧ B' 11 0 16 k = B 11 0 16 k ∧ B' 11 0 17 k = B 11 0 17 k ∧ Bm' 14 0 42 k = Bm 14 0 42 k ∧ Bm' 14 0 43 k = Bm 14 0 43 k ∧ Bm' 14 0 44 k = Bm 14 0 44 k) ∧ (∀ k, 0 ≤ k → k < F 11 0 6 → Bm' 14 0 46 k = Bm 14 0 46 k ∧ Bm' 14 0 47 k = Bm 14 0 47 k) ∧ (0 < F 11 0 6 → F' 11 0 7 = F 11 0 7 ∧ F' 11 0 8 = F 11 0 8 ∧ Fm' 14 0 49 = Fm 14 0 49) ∧ F 4 q 6 ≤ F' 4 q 6
theorem WKP_r {q : Int} {F : zF} {B : zB} {Fm : zF} {Bm : zB} : WKP q F B Fm Bm F B Fm Bm := ⟨⟨rfl, rfl, rfl, rfl, rfl⟩, fun _ _ _ => rfl, fun _ _ _ => ⟨rfl, rfl, rfl, rfl, rfl, rfl⟩, fun _ _ _ => ⟨rfl, rfl⟩, fun _ => ⟨rfl, rfl, rfl⟩, Int.le_refl _⟩
theorem WKP_t {q : Int} {F F1 F2 : zF} {B B1 B2 : zB} {Fm Fm1 Fm2 : zF} {Bm Bm1 Bm2 : zB} (h : WKP q F B Fm Bm F1 B1 Fm1 Bm1) (h' : WKP q F1 B1 Fm1 Bm1 F2 B2 Fm2 Bm2) : WKP q F B Fm Bm F2 B2 Fm2 Bm2 := by
  obtain ⟨⟨a1, a2, a3, a4, a5⟩, a6, a7, a8, a9, a10⟩ := h
  obtain ⟨⟨b1, b2, b3, b4, b5⟩, b6, b7, b8, b9, b10⟩ := h'
  refine ⟨⟨by rw [b1, a1], by rw [b2, a2], by rw [b3, a3], by rw [b4, a4], by rw [b5, a5]⟩, fun k u v => by rw [b6 k u v, a6 k u v], fun k u v => ?_, fun k u v => ?_, fun u => ?_, Int.le_trans a10 b10⟩
  · obtain ⟨p1, p2, p3, p4, p5, p6⟩ := a7 k u v
    obtain ⟨q1, q2, q3, q4, q5, q6⟩ := b7 k u (by rw [a5]; exact v)
    exact ⟨by rw [q1, p1], by rw [q2, p2], by rw [q3, p3], by rw [q4, p4], by rw [q5, p5], by rw [q6, p6]⟩
  · obtain ⟨p1, p2⟩ := a8 k u v
    obtain ⟨q1, q2⟩ := b8 k u (by rw [a2]; exact v)
    exact ⟨by rw [q1, p1], by rw [q2, p2]⟩
  · obtain ⟨p1, p2, p3⟩ := a9 u
    obtain ⟨q1, q2, q3⟩ := b9 (by rw [a2]; exact u)
    exact ⟨by rw [q1, p1], by rw [q2, p2], by rw [q3, p3]⟩
def WO (q v w bar : Int) (D : Nat) (F : zF) (B : zB) (Fm : zF) (Bm : zB) (F' : zF) (B' : zB) (Fm' : zF) (Bm' : zB) : Prop := WFR q v w F B Fm Bm F' B' Fm' Bm' ∧ ((WS q v w bar D F' B' Fm' Bm' ∧ WKP q F B Fm Bm F' B' Fm' Bm') ∨ WE D q v w F' Fm')
theorem slV_b {a b c d : Int} : slV a b c d = -1 ∨ (1 ≤ slV a b c d ∧ slV a b c d ≤ 1024) := by
  unfold slV
  split
  · unfold cap
    have h : (1 : Int) ≤ 2 ^ a.toNat * (3 ^ b.toNat * (5 ^ c.toNat * 7 ^ d.toNat)) := ml_1 (pw_1 (by decide) _) (ml_1 (pw_1 (by decide) _) (ml_1 (pw_1 (by decide) _) (pw_1 (by decide) _)))
    split
    · exact Or.inr ⟨h, by assumption⟩
    · exact Or.inl rfl
  · exact Or.inl rfl
theorem d81 : ∀ a b : Fin 10, 1 ≤ a.val → 1 ≤ b.val → (6350400 : Int) = (a.val : Int) * (b.val : Int) * (6350400 / ((a.val : Int) * (b.val : Int))) := by decide +kernel
theorem d81i {a b : Int} (a0 : 1 ≤ a) (a1 : a ≤ 9) (b0 : 1 ≤ b) (b1 : b ≤ 9) : ∃ z, 6350400 = a * b * z ∧ 1 ≤ z ∧ z ≤ 6350400 := by
  have h := d81 ⟨a.toNat, (by first | decide | omega)⟩ ⟨b.toNat, (by first | decide | omega)⟩ (by show 1 ≤ a.toNat; omega) (by show 1 ≤ b.toNat; omega)
  rw [show (((⟨a.toNat, (by first | decide | omega)⟩ : Fin 10).val : Nat) : Int) = a by show ((a.toNat : Nat) : Int) = a; omega, show (((⟨b.toNat, (by first | decide | omega)⟩ : Fin 10).val : Nat) : Int) = b by show ((b.toNat : Nat) : Int) = b; omega] at h
  have ab : 1 ≤ a * b := ml_1 a0 b0
  generalize 6350400 / (a * b) = z at h
  have z1 : 1 ≤ z := by
    rcases Int.lt_or_le 0 z with y | y
    · omega
    · have := Int.mul_nonpos_of_nonneg_of_nonpos (show 0 ≤ a * b by omega) y
      omega
  have z2 : 1 * z ≤ a * b * z := Int.mul_le_mul_of_nonneg_right ab (by first | decide | omega)
  exact ⟨z, h, z1, (by first | decide | omega)⟩
theorem TPL_d {b tf ts : Int} {Bm : zB} (h : TPL b tf ts Bm) (b0 : 0 ≤ b) (b2 : b ≤ 2) : ∃ z, 6350400 = tf * z ∧ 1 ≤ z ∧ z ≤ 6350400 := by
  obtain ⟨a1, a2, a3, a4, a5, a6⟩ := h
  have hb : b = 0 ∨ b = 1 ∨ b = 2 := by omega
  rcases hb with rfl | rfl | rfl
  · exact ⟨6350400, by rw [(a4 rfl).1]; decide, by decide, by decide⟩
  · have h0 := (a1 0 (by decide) (by decide)).1
    obtain ⟨z, hz, z1, z2⟩ := d81i (a := Bm 14 0 46 0) (b := 1) (by first | decide | omega) (by first | decide | omega) (by decide) (by decide)
    exact ⟨z, by rw [(a5 rfl).1, hz, Int.mul_one], z1, z2⟩
  · have h0 := (a1 0 (by decide) (by decide)).1
    have h1 := (a1 1 (by decide) (by decide)).1
    obtain ⟨z, hz, z1, z2⟩ := d81i (a := Bm 14 0 46 0) (b := Bm 14 0 46 1) (by first | decide | omega) (by first | decide | omega) (by first | decide | omega) (by first | decide | omega)
    exact ⟨z, by rw [(a6 rfl).1, hz], z1, z2⟩
theorem L34w {K n : Nat} {F : zF} {B : zB} {b tf ts u i : Int} (hb : F 14 0 48 = b) (b0 : 0 ≤ b) (b2 : b ≤ 2) (h : TPL b tf ts B) (hn : 3 ≤ n) : ∃ m, f_M_event_0_34 K n 0 1 1 u i F B = f_M_event_0_34 K (m + 1) b tf ts u i F B := by
  obtain ⟨n, rfl⟩ : ∃ m, n = m + 3 := ⟨n - 3, (by first | decide | omega)⟩
  obtain ⟨a1, a2, a3, a4, a5, a6⟩ := h
  have st : ∀ (m : Nat) (l l4 l3 : Int), 0 ≤ l → l < b → f_M_event_0_34 K (m + 1) l l4 l3 u i F B = f_M_event_0_34 K m (l + 1) (l4 * B 14 0 46 l) (l3 * B 14 0 47 l) u i F B := fun m l l4 l3 p q => by
    rw [f_M_event_0_34, hb, if_pos (by unfold r32; omega), if_pos (by unfold r32; omega), if_neg (by first | decide | omega), if_pos (by first | decide | omega)]
  have hb' : b = 0 ∨ b = 1 ∨ b = 2 := by omega
  rcases hb' with rfl | rfl | rfl
  · exact ⟨n + 2, by rw [(a4 rfl).1, (a4 rfl).2]⟩
  · exact ⟨n + 1, by rw [st _ _ _ _ (by decide) (by decide), (a5 rfl).1, (a5 rfl).2, Int.one_mul, Int.one_mul]; rfl⟩
  · exact ⟨n, by rw [st _ _ _ _ (by decide) (by decide), Int.one_mul, Int.one_mul, st _ _ _ _ (by decide) (by decide), (a6 rfl).1, (a6 rfl).2]; rfl⟩
end
