section
section
/-! ===== one invariant: what calls that touch no piece keep ===== -/
theorem PD_e {K K' : zK} {V p w : Int} {F F' : zF} {B B' : zB} {Fm Fm' : zF} {Bm Bm' : zB} (h : PD K V p w F B Fm Bm) (hk : K.2 5 ≤ K'.2 5) (f6 : ∀ k, 9 ≤ k → k ≤ 11 → F' 6 p k = F 6 p k) (f5 : 0 ≤ F 6 p 9 → F' 5 (F 6 p 9) = F 5 (F 6 p 9)) (b5 : 0 ≤ F 6 p 9 → B' 5 (F 6 p 9) = B 5 (F 6 p 9)) (fm : ∀ k, Fm' 13 w k = Fm 13 w k) (bm : ∀ k x, Bm' 13 w k x = Bm 13 w k x) : PD K' V p w F' B' Fm' Bm' := by
  obtain ⟨h1, h2, h3, h4, h5, h6, h7⟩ := h
  have e9 := f6 9 (by first | decide | omega) (by first | decide | omega)
  have e10 := f6 10 (by first | decide | omega) (by first | decide | omega)
  have e11 := f6 11 (by first | decide | omega) (by first | decide | omega)
  unfold PD
  rw [e9, e10, e11, fm 53]
  refine ⟨h1, h2, (by first | decide | omega), fun z => ?_, fun z => ?_, fun z => ?_, h7⟩
  · have := h4 z
    unfold rwS at *
    rw [f5 z]; exact this
  · obtain ⟨z0, K0, F0, B0, F1, B1, a1, a2, a3, a4, a5, a6, a7⟩ := h5 z
    exact ⟨z0, K0, F0, B0, F1, B1, a1, a2, PK_e a3 (fun _ => Int.le_refl _) (fun _ _ => rfl) rfl (fun _ _ _ => rfl) (fun _ _ _ => rfl) (fun _ _ _ _ _ _ => rfl) (fun _ _ _ _ _ _ => rfl) (fun k _ _ => fm k) (fun k x _ => bm k x), a4, by rw [f5 z0]; exact a5, by rw [f5 z0]; exact a6, fun k x hk => by rw [b5 z0]; exact a7 k x hk⟩
  · obtain ⟨z1, c, hc⟩ := h6 z
    have z0 := (h5 z1).1
    exact ⟨z1, c, PFD_e hc (f5 z0) (b5 z0) (fun k _ => fm k) (fun k x _ _ => bm k x)⟩
/-- a kept piece's sounds -/
def SDk (K : zK) (p w : Int) (F : zF) (B : zB) (Fm : zF) (Bm : zB) : Prop := 0 ≤ p → PD K (F 6 p 1) p w F B Fm Bm
theorem SLD_of {K : zK} {p w : Int} {F : zF} {B : zB} {Fm : zF} {Bm : zB} (h : SL K p w F B Fm Bm) (d : SDk K p w F B Fm Bm) : SLD K p w F B Fm Bm := by
  rcases h with h | ⟨a, b, V, c, e⟩
  · exact Or.inl h
  · have := d a
    rw [c.1.2.2.2.1] at this
    exact Or.inr ⟨a, b, V, c, e, this⟩
/-- which piece owns which object of sounds, of study, of lines -/
def IS (K : zK) (F : zF) : Prop := (∀ y, 0 ≤ y → y < K.2 6 → 0 ≤ F 6 y 9 → rwS (F 6 y 9) F) ∧ ∀ k, k = 8 ∨ k = 9 ∨ k = 12 → ∀ y y', 0 ≤ y → y < K.2 6 → 0 ≤ y' → y' < K.2 6 → ¬ y = y' → 0 ≤ F 6 y k → ¬ F 6 y k = F 6 y' k
/-- the cells of the objects that lines, sounds and study keep: bounds that hold always -/
def LXu (l : Int) (F : zF) (B : zB) : Prop := (0 ≤ F 2 l 0 ∧ F 2 l 0 ≤ 100) ∧ (0 ≤ F 2 l 4 ∧ F 2 l 4 ≤ 3200) ∧ ∀ j, r64 (B 2 l 1 j) ∧ (0 ≤ B 2 l 2 j ∧ B 2 l 2 j ≤ 200) ∧ (0 ≤ B 2 l 5 j ∧ B 2 l 5 j ≤ 3200) ∧ (0 ≤ B 2 l 6 j ∧ B 2 l 6 j ≤ 640006) ∧ (0 ≤ B 2 l 7 j ∧ B 2 l 7 j ≤ 100) ∧ (0 ≤ B 2 l 8 j ∧ B 2 l 8 j ≤ 100000000) ∧ (0 ≤ B 2 l 10 j ∧ B 2 l 10 j ≤ 1152921504606846976) ∧ (0 ≤ B 2 l 11 j ∧ B 2 l 11 j ≤ 100) ∧ (0 ≤ B 2 l 12 j ∧ B 2 l 12 j ≤ 800)
def PXu (cc s : Int) (F : zF) : Prop := (0 ≤ F 5 s 2 ∧ F 5 s 2 ≤ cc) ∧ (0 ≤ F 5 s 3 ∧ F 5 s 3 ≤ 1000) ∧ (-32768 ≤ F 5 s 11 ∧ F 5 s 11 ≤ 32767) ∧ (-32768 ≤ F 5 s 12 ∧ F 5 s 12 ≤ 32767) ∧ (0 ≤ F 5 s 13 ∧ F 5 s 13 ≤ 88)
def STu (t : Int) (F : zF) (B : zB) : Prop := (0 ≤ F 9 t 0 ∧ F 9 t 0 ≤ 800) ∧ (0 ≤ F 9 t 2 ∧ F 9 t 2 ≤ 300) ∧ (∀ j, 0 ≤ B 9 t 1 j ∧ B 9 t 1 j ≤ 1000000000000) ∧ (∀ k j, 280 ≤ k → k ≤ 283 → -1 ≤ B 9 t k j ∧ B 9 t k j ≤ 199) ∧ ∀ j, (-1 ≤ B 9 t 5 j ∧ B 9 t 5 j ≤ 200) ∧ (-1 ≤ B 9 t 6 j ∧ B 9 t 6 j ≤ 200) ∧ (-1 ≤ B 9 t 7 j ∧ B 9 t 7 j ≤ 200) ∧ (-1 ≤ B 9 t 8 j ∧ B 9 t 8 j ≤ 200) ∧ (0 ≤ B 9 t 9 j ∧ B 9 t 9 j ≤ 1) ∧ r32 (B 9 t 10 j)
def PMu (cc i : Int) (Fm : zF) : Prop := (0 ≤ Fm 13 i 65 ∧ Fm 13 i 65 ≤ cc) ∧ (0 ≤ Fm 13 i 66 ∧ Fm 13 i 66 ≤ 1000) ∧ (-32768 ≤ Fm 13 i 67 ∧ Fm 13 i 67 ≤ 32767) ∧ (-32768 ≤ Fm 13 i 68 ∧ Fm 13 i 68 ≤ 32767) ∧ (0 ≤ Fm 13 i 69 ∧ Fm 13 i 69 ≤ 88)
def TQm (Bm : zB) : Prop := (∀ x, 0 ≤ x → x < 89 → 7 ≤ Bm 14 0 96 x ∧ Bm 14 0 96 x ≤ 32767) ∧ (∀ x, 0 ≤ x → x < 8 → -1 ≤ Bm 14 0 97 x ∧ Bm 14 0 97 x ≤ 8) ∧ ∀ x, 0 ≤ x → x < 24 → 0 ≤ Bm 14 0 106 x ∧ Bm 14 0 106 x ≤ 1000
theorem TQm_e {B B' : zB} (h : TQm B) (f : ∀ k x, k = 96 ∨ k = 97 ∨ k = 106 → B' 14 0 k x = B 14 0 k x) : TQm B' := by
  obtain ⟨h1, h2, h3⟩ := h
  refine ⟨fun x x0 x1 => ?_, fun x x0 x1 => ?_, fun x x0 x1 => ?_⟩
  · rw [f 96 x (by first | decide | omega)]; exact h1 x x0 x1
  · rw [f 97 x (by first | decide | omega)]; exact h2 x x0 x1
  · rw [f 106 x (by first | decide | omega)]; exact h3 x x0 x1
/-- how many pieces have no such object yet: objects are no more than pieces -/
def ng3 (n a0 a1 a2 : Int) : Int := (if 0 < n ∧ a0 < 0 then 1 else 0) + (if 1 < n ∧ a1 < 0 then 1 else 0) + (if 2 < n ∧ a2 < 0 then 1 else 0)
theorem ng3_0 (n a0 a1 a2 : Int) : 0 ≤ ng3 n a0 a1 a2 := by
  unfold ng3
  split <;> split <;> split <;> omega
theorem ng3_e {n a0 a1 a2 b0 b1 b2 : Int} (h0 : 0 < n → b0 = a0) (h1 : 1 < n → b1 = a1) (h2 : 2 < n → b2 = a2) : ng3 n b0 b1 b2 = ng3 n a0 a1 a2 := by
  unfold ng3
  by_cases c0 : 0 < n
  · rw [h0 c0]
    by_cases c1 : 1 < n
    · rw [h1 c1]
      by_cases c2 : 2 < n
      · rw [h2 c2]
      · rw [if_neg (show ¬ (2 < n ∧ b2 < 0) from fun q => c2 q.1), if_neg (show ¬ (2 < n ∧ a2 < 0) from fun q => c2 q.1)]
    · rw [if_neg (show ¬ (1 < n ∧ b1 < 0) from fun q => c1 q.1), if_neg (show ¬ (1 < n ∧ a1 < 0) from fun q => c1 q.1), if_neg (show ¬ (2 < n ∧ b2 < 0) from fun q => (by first | decide | omega)), if_neg (show ¬ (2 < n ∧ a2 < 0) from fun q => (by first | decide | omega))]
  · rw [if_neg (show ¬ (0 < n ∧ b0 < 0) from fun q => c0 q.1), if_neg (show ¬ (0 < n ∧ a0 < 0) from fun q => c0 q.1), if_neg (show ¬ (1 < n ∧ b1 < 0) from fun q => (by first | decide | omega)), if_neg (show ¬ (1 < n ∧ a1 < 0) from fun q => (by first | decide | omega)), if_neg (show ¬ (2 < n ∧ b2 < 0) from fun q => (by first | decide | omega)), if_neg (show ¬ (2 < n ∧ a2 < 0) from fun q => (by first | decide | omega))]
def ngk (k : Nat) (K : zK) (F : zF) : Int := ng3 (K.2 6) (F 6 0 k) (F 6 1 k) (F 6 2 k)
theorem ngk_e {k : Nat} {K K' : zK} {F F' : zF} (h6 : K'.2 6 = K.2 6) (f : ∀ y, 0 ≤ y → y < K.2 6 → F' 6 y k = F 6 y k) : ngk k K' F' = ngk k K F := by
  unfold ngk
  rw [h6]
  exact ng3_e (fun c => f 0 (by first | decide | omega) c) (fun c => f 1 (by first | decide | omega) c) (fun c => f 2 (by first | decide | omega) c)
/-- one piece gets its object -/
theorem ngk_o {k : Nat} {K K' : zK} {q : Int} {F F' : zF} (h6 : K'.2 6 = K.2 6) (h3 : K.2 6 ≤ 3) (hq : 0 ≤ q ∧ q < K.2 6) (n : F 6 q k < 0) (n' : 0 ≤ F' 6 q k) (f : ∀ y, 0 ≤ y → y < K.2 6 → ¬ y = q → F' 6 y k = F 6 y k) : ngk k K' F' + 1 = ngk k K F := by
  unfold ngk
  rw [h6]
  have : q = 0 ∨ q = 1 ∨ q = 2 := by omega
  unfold ng3
  rcases this with rfl | rfl | rfl
  · rw [if_neg (show ¬ (0 < K.2 6 ∧ F' 6 0 k < 0) from fun z => (by first | decide | omega)), if_pos (show 0 < K.2 6 ∧ F 6 0 k < 0 from ⟨hq.2, n⟩)]
    have e := ng3_e (n := K.2 6) (a0 := 0) (b0 := 0) (a1 := F 6 1 k) (b1 := F' 6 1 k) (a2 := F 6 2 k) (b2 := F' 6 2 k) (fun _ => rfl) (fun c => f 1 (by first | decide | omega) c (by first | decide | omega)) (fun c => f 2 (by first | decide | omega) c (by first | decide | omega))
    unfold ng3 at e
    omega
  · rw [if_neg (show ¬ (1 < K.2 6 ∧ F' 6 1 k < 0) from fun z => (by first | decide | omega)), if_pos (show 1 < K.2 6 ∧ F 6 1 k < 0 from ⟨hq.2, n⟩)]
    have e := ng3_e (n := K.2 6) (a0 := F 6 0 k) (b0 := F' 6 0 k) (a1 := 0) (b1 := 0) (a2 := F 6 2 k) (b2 := F' 6 2 k) (fun c => f 0 (by first | decide | omega) c (by first | decide | omega)) (fun _ => rfl) (fun c => f 2 (by first | decide | omega) c (by first | decide | omega))
    unfold ng3 at e
    omega
  · rw [if_neg (show ¬ (2 < K.2 6 ∧ F' 6 2 k < 0) from fun z => (by first | decide | omega)), if_pos (show 2 < K.2 6 ∧ F 6 2 k < 0 from ⟨hq.2, n⟩)]
    have e := ng3_e (n := K.2 6) (a0 := F 6 0 k) (b0 := F' 6 0 k) (a1 := F 6 1 k) (b1 := F' 6 1 k) (a2 := 0) (b2 := 0) (fun c => f 0 (by first | decide | omega) c (by first | decide | omega)) (fun c => f 1 (by first | decide | omega) c (by first | decide | omega)) (fun _ => rfl)
    unfold ng3 at e
    omega
/-- a new piece -/
theorem ngk_n {k : Nat} {K K' : zK} {F F' : zF} (h0 : 0 ≤ K.2 6) (h3 : K.2 6 ≤ 2) (h6 : K'.2 6 = K.2 6 + 1) (n : F' 6 (K.2 6) k < 0) (f : ∀ y, 0 ≤ y → y < K.2 6 → F' 6 y k = F 6 y k) : ngk k K' F' = ngk k K F + 1 := by
  unfold ngk
  rw [h6]
  have o : K.2 6 = 0 ∨ K.2 6 = 1 ∨ K.2 6 = 2 := by omega
  unfold ng3
  rcases o with z | z | z
  · rw [z] at n ⊢
    rw [if_pos (show (0 : Int) < 0 + 1 ∧ F' 6 0 k < 0 from ⟨by decide, n⟩), if_neg (show ¬ ((1 : Int) < 0 + 1 ∧ F' 6 1 k < 0) from fun q => (by first | decide | omega)), if_neg (show ¬ ((2 : Int) < 0 + 1 ∧ F' 6 2 k < 0) from fun q => (by first | decide | omega)), if_neg (show ¬ ((0 : Int) < 0 ∧ F 6 0 k < 0) from fun q => (by first | decide | omega)), if_neg (show ¬ ((1 : Int) < 0 ∧ F 6 1 k < 0) from fun q => (by first | decide | omega)), if_neg (show ¬ ((2 : Int) < 0 ∧ F 6 2 k < 0) from fun q => (by first | decide | omega))]
    omega
  · have e0 := f 0 (by first | decide | omega) (by first | decide | omega)
    rw [z] at n ⊢
    rw [e0, if_pos (show (1 : Int) < 1 + 1 ∧ F' 6 1 k < 0 from ⟨by decide, n⟩), if_neg (show ¬ ((2 : Int) < 1 + 1 ∧ F' 6 2 k < 0) from fun q => (by first | decide | omega)), if_neg (show ¬ ((1 : Int) < 1 ∧ F 6 1 k < 0) from fun q => (by first | decide | omega)), if_neg (show ¬ ((2 : Int) < 1 ∧ F 6 2 k < 0) from fun q => (by first | decide | omega))]
    by_cases c : F 6 0 k < 0
    · rw [if_pos ⟨by decide, c⟩, if_pos ⟨by decide, c⟩]; omega
    · rw [if_neg (fun q => c q.2), if_neg (fun q => c q.2)]; omega
  · have e0 := f 0 (by first | decide | omega) (by first | decide | omega)
    have e1 := f 1 (by first | decide | omega) (by first | decide | omega)
    rw [z] at n ⊢
    rw [e0, e1, if_pos (show (2 : Int) < 2 + 1 ∧ F' 6 2 k < 0 from ⟨by decide, n⟩), if_neg (show ¬ ((2 : Int) < 2 ∧ F 6 2 k < 0) from fun q => (by first | decide | omega))]
    split <;> split <;> split <;> split <;> omega
def IKn (K : zK) (F : zF) : Prop := K.2 6 ≤ 3 ∧ K.2 2 + ngk 8 K F ≤ K.2 6 ∧ K.2 5 + ngk 9 K F ≤ K.2 6 ∧ K.2 9 + ngk 12 K F ≤ K.2 6
theorem IKn_f {K K' : zK} {F F' : zF} (h : IKn K F) (k2 : K'.2 2 = K.2 2) (k5 : K'.2 5 = K.2 5) (k6 : K'.2 6 = K.2 6) (k9 : K'.2 9 = K.2 9) (f : ∀ y k, 0 ≤ y → y < K.2 6 → k = 8 ∨ k = 9 ∨ k = 12 → F' 6 y k = F 6 y k) : IKn K' F' := by
  unfold IKn at *
  rw [ngk_e k6 (fun y y0 y1 => f y 8 y0 y1 (by first | decide | omega)), ngk_e k6 (fun y y0 y1 => f y 9 y0 y1 (by first | decide | omega)), ngk_e k6 (fun y y0 y1 => f y 12 y0 y1 (by first | decide | omega)), k2, k5, k6, k9]
  exact h
def IU (cc : Int) (K : zK) (F : zF) (B : zB) (Fm : zF) (Bm : zB) : Prop := (0 ≤ cc ∧ IKn K F) ∧ (∀ l, 0 ≤ l → l < K.2 2 → LXu l F B) ∧ (∀ s, 0 ≤ s → s < K.2 5 → PXu cc s F) ∧ (∀ t, 0 ≤ t → t < K.2 9 → STu t F B) ∧ (∀ y, 0 ≤ y → y < K.2 6 → F 6 y 13 = 0 ∨ (F 6 y 13 = 1 ∧ 0 ≤ F 6 y 12)) ∧ (∀ i, 0 ≤ i → i < 3 → ¬ Fm 13 i 53 = 0 → PMu cc i Fm) ∧ TQm Bm
theorem PXu_e {cc s : Int} {F F' : zF} (h : PXu cc s F) (f : ∀ k, k = 2 ∨ k = 3 ∨ k = 11 ∨ k = 12 ∨ k = 13 → F' 5 s k = F 5 s k) : PXu cc s F' := by
  unfold PXu at *
  rw [f 2 (by first | decide | omega), f 3 (by first | decide | omega), f 11 (by first | decide | omega), f 12 (by first | decide | omega), f 13 (by first | decide | omega)]
  exact h
theorem PXu_z {cc s : Int} {F F' : zF} (hc : 0 ≤ cc) (h : PXu cc s F) (f : ∀ k, k = 2 ∨ k = 3 ∨ k = 11 ∨ k = 12 ∨ k = 13 → F' 5 s k = 0 ∨ F' 5 s k = F 5 s k) : PXu cc s F' := by
  unfold PXu at *
  have f2 := f 2 (by first | decide | omega)
  have f3 := f 3 (by first | decide | omega)
  have f11 := f 11 (by first | decide | omega)
  have f12 := f 12 (by first | decide | omega)
  have f13 := f 13 (by first | decide | omega)
  omega
theorem PMu_e {cc i : Int} {F F' : zF} (h : PMu cc i F) (f : ∀ k, 65 ≤ k → k ≤ 69 → F' 13 i k = F 13 i k) : PMu cc i F' := by
  unfold PMu at *
  rw [f 65 (by first | decide | omega) (by first | decide | omega), f 66 (by first | decide | omega) (by first | decide | omega), f 67 (by first | decide | omega) (by first | decide | omega), f 68 (by first | decide | omega) (by first | decide | omega), f 69 (by first | decide | omega) (by first | decide | omega)]
  exact h
theorem PMu_0 {cc i : Int} {F : zF} (hc : 0 ≤ cc) (f : ∀ k, 65 ≤ k → k ≤ 69 → F 13 i k = 0) : PMu cc i F := by
  unfold PMu
  rw [f 65 (by first | decide | omega) (by first | decide | omega), f 66 (by first | decide | omega) (by first | decide | omega), f 67 (by first | decide | omega) (by first | decide | omega), f 68 (by first | decide | omega) (by first | decide | omega), f 69 (by first | decide | omega) (by first | decide | omega)]
  omega
theorem IU_f {cc : Int} {K K' : zK} {F F' : zF} {B B' : zB} {Fm Fm' : zF} {Bm Bm' : zB} (h : IU cc K F B Fm Bm) (kn : IKn K' F') (k2 : K'.2 2 = K.2 2) (k9 : K'.2 9 = K.2 9) (f2 : ∀ l, 0 ≤ l → l < K.2 2 → (F' 2 l 0 = F 2 l 0 ∨ F' 2 l 0 = 0) ∧ F' 2 l 4 = F 2 l 4 ∧ ∀ k x, B' 2 l k x = B 2 l k x) (f5 : ∀ s, 0 ≤ s → s < K'.2 5 → PXu cc s F') (f9 : ∀ t, 0 ≤ t → t < K.2 9 → (∀ k, F' 9 t k = F 9 t k) ∧ ∀ k x, B' 9 t k x = B 9 t k x) (f6 : ∀ y, 0 ≤ y → y < K'.2 6 → F' 6 y 13 = 0 ∨ (y < K.2 6 ∧ F' 6 y 13 = F 6 y 13 ∧ F' 6 y 12 = F 6 y 12)) (m : ∀ i, 0 ≤ i → i < 3 → ¬ Fm' 13 i 53 = 0 → PMu cc i Fm') (q : ∀ k x, k = 96 ∨ k = 97 ∨ k = 106 → Bm' 14 0 k x = Bm 14 0 k x) : IU cc K' F' B' Fm' Bm' := by
  obtain ⟨h0, h1, h2, h3, h4, h5, h6⟩ := h
  refine ⟨⟨h0.1, kn⟩, fun l l0 l1 => ?_, f5, fun t t0 t1 => ?_, fun y y0 y1 => ?_, m, TQm_e h6 q⟩
  · obtain ⟨g0, g4, gb⟩ := f2 l l0 (by first | decide | omega)
    obtain ⟨a1, a2, a3⟩ := h1 l l0 (by first | decide | omega)
    refine ⟨(by first | decide | omega), (by first | decide | omega), fun j => ?_⟩
    rw [gb, gb, gb, gb, gb, gb, gb, gb, gb]
    exact a3 j
  · obtain ⟨g, gb⟩ := f9 t t0 (by first | decide | omega)
    obtain ⟨a1, a2, a3, a4, a5⟩ := h3 t t0 (by first | decide | omega)
    unfold STu
    simp only [g, gb]
    exact ⟨a1, a2, a3, a4, a5⟩
  · rcases f6 y y0 y1 with z | ⟨z1, z2, z3⟩
    · exact Or.inl z
    · rw [z2, z3]; exact h4 y y0 z1
/-- lines of a kept piece, reference -/
def LNok (w : Int) (Fm : zF) (Bm : zB) : Prop := (1 ≤ Fm 13 w 48 ∧ Fm 13 w 48 ≤ 100) ∧ r32 (Fm 13 w 47) ∧ (∀ j, 0 ≤ j → j < Fm 13 w 48 → 0 ≤ Bm 13 w 49 j ∧ 1 ≤ Bm 13 w 50 j ∧ Bm 13 w 49 j + Bm 13 w 50 j ≤ Fm 13 w 7 ∧ r32 (Bm 13 w 51 j)) ∧ Bm 13 w 49 0 = 0 ∧ (∀ j, 0 ≤ j → j + 1 < Fm 13 w 48 → Bm 13 w 49 (j + 1) = Bm 13 w 49 j + Bm 13 w 50 j) ∧ Bm 13 w 49 (Fm 13 w 48 - 1) + Bm 13 w 50 (Fm 13 w 48 - 1) = Fm 13 w 7
/-- what else a kept piece has alike: the signs of its notes -/
def LNk (p w : Int) (F : zF) (B : zB) (Fm : zF) (Bm : zB) : Prop := 0 ≤ p → (Fm 13 w 48 = 0 ∨ LNok w Fm Bm) ∧ NAl (F 6 p 1) p w F B Bm ∧ XTk (F 6 p 1) p w F B Fm Bm ∧ LYk p w F B Fm Bm
theorem LNk_e {K : zK} {p w : Int} {F F' : zF} {B B' : zB} {Fm Fm' : zF} {Bm Bm' : zB} (h : LNk p w F B Fm Bm) (s : SL K p w F B Fm Bm) (f6 : 0 ≤ p → p < K.2 6 → ∀ k, k ≤ 8 ∨ k = 12 ∨ k = 13 → F' 6 p k = F 6 p k) (b6 : 0 ≤ p → p < K.2 6 → ∀ v, B' 6 p 0 v = B 6 p 0 v) (f4 : ∀ q k, 0 ≤ q → q < K.2 4 → (∃ u, 0 ≤ u ∧ u < 4 ∧ B 6 p 0 u = q) → 0 ≤ p → p < K.2 6 → F' 4 q k = F 4 q k ∧ ∀ x, B' 4 q k x = B 4 q k x) (ob : ∀ (c j : Nat), (c = 2 ∧ j = 8) ∨ (c = 9 ∧ j = 12) → 0 ≤ p → p < K.2 6 → 0 ≤ F 6 p j → ∀ k, F' c (F 6 p j) k = F c (F 6 p j) k ∧ ∀ x, B' c (F 6 p j) k x = B c (F 6 p j) k x) (f : ∀ k, k ≤ 52 ∨ 72 ≤ k → Fm' 13 w k = Fm 13 w k) (b : ∀ k x, k ≤ 52 ∨ 72 ≤ k → Bm' 13 w k x = Bm 13 w k x) : LNk p w F' B' Fm' Bm' := fun p0 => by
  rcases s with ⟨a, _⟩ | ⟨_, _, V, c, _⟩
  · omega
  have hp := c.1.1
  have hV := c.1.2.2.1
  have hq : ∀ u, 0 ≤ u → u < V → (0 ≤ B 6 p 0 u ∧ B 6 p 0 u < K.2 4) := fun u u0 u1 => (c.2.2 u u0 u1).1.1
  have e1 : F 6 p 1 = V := c.1.2.2.2.1
  obtain ⟨h1, h2, h3, h4⟩ := h p0
  have e49 : ∀ x, Bm' 13 w 49 x = Bm 13 w 49 x := fun x => b 49 x (by first | decide | omega)
  have e50 : ∀ x, Bm' 13 w 50 x = Bm 13 w 50 x := fun x => b 50 x (by first | decide | omega)
  have e51 : ∀ x, Bm' 13 w 51 x = Bm 13 w 51 x := fun x => b 51 x (by first | decide | omega)
  refine ⟨?_, ?_, ?_, LYk_e h4 (fun k hk => f6 hp.1 hp.2 k (by first | decide | omega)) (fun z => ob 2 8 (Or.inl ⟨rfl, rfl⟩) hp.1 hp.2 z) (fun k hk => f k (by first | decide | omega)) (fun k x _ _ => b k x (by first | decide | omega))⟩
  · unfold LNok
    rw [f 7 (by first | decide | omega), f 47 (by first | decide | omega), f 48 (by first | decide | omega)]
    simp only [e49, e50, e51]
    exact h1
  · rw [f6 hp.1 hp.2 1 (by first | decide | omega), e1]
    rw [e1] at h2
    exact NAl_e h2 (fun u _ _ => b6 hp.1 hp.2 u) (fun u u0 u1 => (f4 _ 10 (hq u u0 u1).1 (hq u u0 u1).2 ⟨u, u0, (by first | decide | omega), rfl⟩ hp.1 hp.2).1) (fun u u0 u1 k x => (f4 _ k (hq u u0 u1).1 (hq u u0 u1).2 ⟨u, u0, (by first | decide | omega), rfl⟩ hp.1 hp.2).2 x) (fun k x _ _ => b k x (by first | decide | omega))
  · rw [f6 hp.1 hp.2 1 (by first | decide | omega)]
    exact XTk_e h3 ⟨f6 hp.1 hp.2 12 (by first | decide | omega), f6 hp.1 hp.2 13 (by first | decide | omega)⟩ (fun z => ob 9 12 (Or.inr ⟨rfl, rfl⟩) hp.1 hp.2 z) (fun k hk => f k (by first | decide | omega)) (fun k x hk => b k x (by first | decide | omega))
def IE (cc : Int) (K : zK) (Km : Nat) (p p0 p1 w w0 w1 : Int) (F : zF) (B : zB) (Fm : zF) (Bm : zB) : Prop := IC K Km p p0 p1 w w0 w1 F B Fm Bm ∧ T61 Bm ∧ IS K F ∧ SDk K p0 w0 F B Fm Bm ∧ SDk K p1 w1 F B Fm Bm ∧ IU cc K F B Fm Bm ∧ LNk p0 w0 F B Fm Bm ∧ LNk p1 w1 F B Fm Bm
/-- what touches no piece -/
def noF (F F' : zF) : Prop := ∀ c y k, ¬ c = 0 → ¬ c = 7 → ¬ c = 8 → ¬ (c = 1 ∧ y = 0) → ¬ (c = 12 ∧ y = 0 ∧ 8 ≤ k) → F' c y k = F c y k
def noB (B B' : zB) : Prop := ∀ c y k x, ¬ c = 0 → ¬ c = 7 → ¬ c = 8 → ¬ (c = 1 ∧ y = 0) → ¬ (c = 12 ∧ y = 0 ∧ k = 1) → B' c y k x = B c y k x
def noG (w : Int) (F F' : zF) : Prop := ∀ i k, (i ≠ w ∨ k = 0 ∨ 8 ≤ k → F' 13 i k = F 13 i k) ∧ F' 14 0 6 = F 14 0 6
def noH (w : Int) (B B' : zB) : Prop := (∀ i k x, ¬ (i = w ∧ 8 ≤ k ∧ k ≤ 35) → B' 13 i k x = B 13 i k x) ∧ ∀ k x, k = 5 ∨ k = 13 ∨ k = 14 ∨ k = 15 ∨ k = 58 ∨ k = 61 ∨ k = 96 ∨ k = 97 ∨ k = 106 → B' 14 0 k x = B 14 0 k x
theorem IE_f {cc : Int} {K K' : zK} {Km : Nat} {p p0 p1 w w0 w1 : Int} {F F' : zF} {B B' : zB} {Fm Fm' : zF} {Bm Bm' : zB} (h : IE cc K Km p p0 p1 w w0 w1 F B Fm Bm) (k1 : K'.1 = K.1) (kc : ∀ c, ¬ c = 8 → K'.2 c = K.2 c) (k8 : K.2 8 ≤ K'.2 8) (f : noF F F') (b : noB B B') (g : noG w Fm Fm') (m : noH w Bm Bm') (hT' : IT F' B' Fm' Bm') : IE cc K' Km p p0 p1 w w0 w1 F' B' Fm' Bm' := by
  obtain ⟨⟨⟨a1, a2, a3⟩, hB, ⟨d1, d2, d3, d4, d5, d6, d7⟩, hT, ⟨n1, n2, n3, n4, n5, n6⟩, hW, hQ, hG, hF, s0, s1⟩, t61, hS, e0, e1, hU, l0, l1⟩ := h
  have f12 : ∀ k, k < 8 → F' 12 0 k = F 12 0 k := fun k hk => f 12 0 k (by first | decide | omega) (by first | decide | omega) (by first | decide | omega) (by first | decide | omega) (by first | decide | omega)
  have f3 : ∀ k, F' 3 0 k = F 3 0 k := fun k => f 3 0 k (by first | decide | omega) (by first | decide | omega) (by first | decide | omega) (by first | decide | omega) (by first | decide | omega)
  have f4 : ∀ q k, F' 4 q k = F 4 q k := fun q k => f 4 q k (by first | decide | omega) (by first | decide | omega) (by first | decide | omega) (by first | decide | omega) (by first | decide | omega)
  have f5 : ∀ q k, F' 5 q k = F 5 q k := fun q k => f 5 q k (by first | decide | omega) (by first | decide | omega) (by first | decide | omega) (by first | decide | omega) (by first | decide | omega)
  have f6 : ∀ q k, F' 6 q k = F 6 q k := fun q k => f 6 q k (by first | decide | omega) (by first | decide | omega) (by first | decide | omega) (by first | decide | omega) (by first | decide | omega)
  have b4 : ∀ q k x, B' 4 q k x = B 4 q k x := fun q k x => b 4 q k x (by first | decide | omega) (by first | decide | omega) (by first | decide | omega) (by first | decide | omega) (by first | decide | omega)
  have b5 : ∀ q k x, B' 5 q k x = B 5 q k x := fun q k x => b 5 q k x (by first | decide | omega) (by first | decide | omega) (by first | decide | omega) (by first | decide | omega) (by first | decide | omega)
  have b6 : ∀ q k x, B' 6 q k x = B 6 q k x := fun q k x => b 6 q k x (by first | decide | omega) (by first | decide | omega) (by first | decide | omega) (by first | decide | omega) (by first | decide | omega)
  have b10 : ∀ x, B' 10 0 5 x = B 10 0 5 x := fun x => b 10 0 5 x (by first | decide | omega) (by first | decide | omega) (by first | decide | omega) (by first | decide | omega) (by first | decide | omega)
  have b3 : ∀ x, B' 12 0 3 x = B 12 0 3 x := fun x => b 12 0 3 x (by first | decide | omega) (by first | decide | omega) (by first | decide | omega) (by first | decide | omega) (by first | decide | omega)
  have kk : ∀ c, K.2 c ≤ K'.2 c := fun c => by
    by_cases z : c = 8
    · rw [z]; exact k8
    · rw [kc c z]; exact Int.le_refl _
  have q1 := kc 1 (by decide)
  have q4 := kc 4 (by decide)
  have q6 := kc 6 (by decide)
  have m14 : ∀ k, k = 5 ∨ k = 13 ∨ k = 14 ∨ k = 15 ∨ k = 58 ∨ k = 61 → Bm' 14 0 k = Bm 14 0 k := fun k hk => by funext x; exact m.2 k x (by first | decide | omega)
  have gs : GS K' B' := by
    have := GS_B d1 (B' := B') (fun p v _ _ => b6 p 0 v) (fun q x _ _ => b4 q 5 x)
    obtain ⟨g1, g2, g3, g4, g5⟩ := this
    refine ⟨fun c hc => ?_, by rw [q6, q4]; exact g2, by rw [q6]; exact g3, by rw [q4, q1]; exact g4, by rw [q4]; exact g5⟩
    have := g1 c hc
    rw [q1, kc c (by first | decide | omega)]
    exact this
  have hsl : ∀ y v, ¬ v = w → SL K y v F B Fm Bm → SL K' y v F' B' Fm' Bm' := fun y v hv s => SL_e s kk (fun _ _ k _ => f6 y k) (fun _ _ v => b6 y 0 v) (fun q k _ _ _ _ _ => ⟨f4 q k, fun x => b4 q k x⟩) (fun q i k a1 a2 _ _ _ i0 i1 => by
    have := d1.2.2.2.1 q i a1 a2 i0 i1
    exact ⟨f 1 _ k (by first | decide | omega) (by first | decide | omega) (by first | decide | omega) (by first | decide | omega) (by first | decide | omega), fun x => b 1 _ k x (by first | decide | omega) (by first | decide | omega) (by first | decide | omega) (by first | decide | omega) (by first | decide | omega)⟩) (fun k => (g v k).1 (Or.inl hv)) (fun k x => m.1 v k x (by first | decide | omega))
  have hsd : ∀ y v, ¬ v = w → SDk K y v F B Fm Bm → SDk K' y v F' B' Fm' Bm' := fun y v hv s y0 => by
    rw [f6]
    exact PD_e (s y0) (kk 5) (fun k _ _ => f6 y k) (fun _ => by funext k; exact f5 _ k) (fun _ => by funext k x; exact b5 _ k x) (fun k => (g v k).1 (Or.inl hv)) (fun k x => m.1 v k x (by first | decide | omega))
  have hln : ∀ y v, ¬ v = w → SL K y v F B Fm Bm → LNk y v F B Fm Bm → LNk y v F' B' Fm' Bm' := fun y v hv s l => LNk_e l s (fun _ _ k _ => f6 y k) (fun _ _ v => b6 y 0 v) (fun q k _ _ _ _ _ => ⟨f4 q k, fun x => b4 q k x⟩) (fun c j hc _ _ _ k => ⟨f c _ k (by first | decide | omega) (by first | decide | omega) (by first | decide | omega) (by first | decide | omega) (by first | decide | omega), fun x => b c _ k x (by first | decide | omega) (by first | decide | omega) (by first | decide | omega) (by first | decide | omega) (by first | decide | omega)⟩) (fun k _ => (g v k).1 (Or.inl hv)) (fun k x _ => m.1 v k x (by first | decide | omega))
  have ex : ∀ k, 36 ≤ k → ∀ i x, Bm' 13 i k x = Bm 13 i k x := fun k hk i x => m.1 i k x (by first | decide | omega)
  refine ⟨⟨⟨by rw [k1]; exact a1, a2, ?_⟩, ?_, ⟨gs, fun j => by rw [b10]; exact d2 j, fun q s h1 h2 h3 h4 => by rw [b4]; exact d3 q s h1 (by first | decide | omega) h3 h4, ?_, ?_, ?_, ?_⟩, hT', ⟨by rw [f12 7 (by first | decide | omega)]; exact n1, by rw [b3]; exact n2, by rw [b3]; exact n3, by rw [(g 0 0).2]; exact n4, by rw [m.2 5 0 (by first | decide | omega)]; exact n5, by rw [m.2 5 1 (by first | decide | omega)]; exact n6⟩, hW, ?_, ?_, ?_, hsl p0 w0 hW.2.2.2.1 s0, hsl p1 w1 hW.2.2.2.2.1 s1⟩, ?_, ?_, hsd p0 w0 hW.2.2.2.1 e0, hsd p1 w1 hW.2.2.2.2.1 e1, ?_, hln p0 w0 hW.2.2.2.1 s0 l0, hln p1 w1 hW.2.2.2.2.1 s1 l1⟩
  · rw [kc 0 (by decide), kc 2 (by decide), kc 3 (by decide), kc 5 (by decide), kc 7 (by decide), kc 9 (by decide), kc 10 (by decide), kc 11 (by decide), kc 12 (by decide)]
    omega
  · unfold IB at *
    rw [f12 0 (by first | decide | omega), f12 2 (by first | decide | omega), f12 4 (by first | decide | omega), f12 5 (by first | decide | omega), f12 6 (by first | decide | omega), f3]; exact hB
  · unfold MW at *
    rw [m14 13 (by first | decide | omega), m14 14 (by first | decide | omega), m14 15 (by first | decide | omega)]; exact d4
  · unfold XS at *
    simp only [m14 58 (by first | decide | omega), ex 36 (by decide), ex 37 (by decide), ex 38 (by decide), ex 39 (by decide), ex 40 (by decide), ex 41 (by decide)]; exact d5
  · unfold XC at *
    simp only [ex 42 (by decide), ex 45 (by decide), ex 46 (by decide)]; exact d6
  · unfold X77 at *
    simp only [ex 77 (by decide), ex 78 (by decide), ex 79 (by decide), ex 80 (by decide)]; exact d7
  · unfold IQp at *
    rw [q6]; exact hQ
  · unfold IG at *
    rw [q6, q4, q1, slE_e (fun _ v => b6 p 0 v), slE_e (fun _ v => b6 p0 0 v), slE_e (fun _ v => b6 p1 0 v)]; exact hG
  · intro y y0 y1
    rw [f6, f6, f6, kc 2 (by decide), kc 5 (by decide), kc 9 (by decide)]
    exact hF y y0 (by first | decide | omega)
  · unfold T61 at *
    rw [m14 61 (by first | decide | omega)]; exact t61
  · refine ⟨fun y y0 y1 z => ?_, fun k hk y y' y0 y1 z0 z1 n => ?_⟩
    · rw [f6] at z ⊢
      have := hS.1 y y0 (by first | decide | omega) z
      unfold rwS at *
      rw [f5, f5]; exact this
    · rw [f6, f6]
      exact hS.2 k hk y y' y0 (by first | decide | omega) z0 (by first | decide | omega) n
  · have u0 := hU
    obtain ⟨c0, _, hU5, _, _, hUm, _⟩ := u0
    refine IU_f hU (IKn_f c0.2 (kc 2 (by decide)) (kc 5 (by decide)) (kc 6 (by decide)) (kc 9 (by decide)) (fun y k _ _ _ => f6 y k)) (kc 2 (by decide)) (kc 9 (by decide)) (fun l _ _ => ⟨Or.inl (f 2 l 0 (by first | decide | omega) (by first | decide | omega) (by first | decide | omega) (by first | decide | omega) (by first | decide | omega)), f 2 l 4 (by first | decide | omega) (by first | decide | omega) (by first | decide | omega) (by first | decide | omega) (by first | decide | omega), fun k x => b 2 l k x (by first | decide | omega) (by first | decide | omega) (by first | decide | omega) (by first | decide | omega) (by first | decide | omega)⟩) (fun s s0 s1 => PXu_e (hU5 s s0 (by rw [← kc 5 (by decide)]; exact s1)) (fun k _ => f5 s k)) (fun t _ _ => ⟨fun k => f 9 t k (by first | decide | omega) (by first | decide | omega) (by first | decide | omega) (by first | decide | omega) (by first | decide | omega), fun k x => b 9 t k x (by first | decide | omega) (by first | decide | omega) (by first | decide | omega) (by first | decide | omega) (by first | decide | omega)⟩) (fun y _ y1 => Or.inr ⟨by rw [← q6]; exact y1, f6 y 13, f6 y 12⟩) (fun i i0 i1 z => ?_) (fun k x hk => m.2 k x (by first | decide | omega))
    rw [(g i 53).1 (by first | decide | omega)] at z
    exact PMu_e (hUm i i0 i1 z) (fun k k0 k1 => (g i k).1 (by first | decide | omega))
end
end
section
section
variable {cc : Int}
/-! ===== the invariant, and the calls that touch no piece ===== -/
def IX (B Bm : zB) : Prop := ∀ y, 0 ≤ y → y < 20 → B 12 0 1 y % 256 = Bm 14 0 4 y % 256
def IV (cc : Int) (Km : Nat) (K : zK) (F : zF) (B : zB) (Fm : zF) (Bm : zB) : Prop := ∃ p p0 p1 w w0 w1, IE cc K Km p p0 p1 w w0 w1 F B Fm Bm ∧ WI F B Fm Bm ∧ IOp K F B Fm Bm ∧ F 7 0 4 = 0 ∧ IX B Bm ∧ 60000 ≤ K.1
theorem zi2b_1 (x : Int) : zi2b x % 256 = x % 256 := by rw [zi2b_e, bmod256]
theorem p_feed {Km : Nat} (a1 a2 a3 a4 a5 : Int) (h1 : r32 a1) (h2 : r32 a2) (h3 : r32 a3) (h4 : r32 a4) (h5 : r32 a5) {K : zK} {F Fm : zF} {B Bm : zB} (h : IV cc Km K F B Fm Bm) : ∃ r1 F1 B1 r2 F2 B2, f_S_feed K 0 a1 a2 a3 a4 a5 F B = some (r1, F1, B1) ∧ f_M_feed Km a1 a2 a3 a4 a5 Fm Bm = some (r2, F2, B2) ∧ IV cc Km K F1 B1 F2 B2 := by
  obtain ⟨p, p0, p1, w, w0, w1, hE, hW, hO, h7, hX, hK⟩ := h
  have hA := hE.1.1
  obtain ⟨B', x1, x2, x3⟩ := C_feed (K := K) (a1 := a1) (a2 := a2) (a3 := a3) (a4 := a4) (a5 := a5) (F := F) (B := B) (by first | decide | omega) (by have := hA.2.2; omega)
  obtain ⟨Bm', y1, y2, y3⟩ := L_feed (K := Km) (F := Fm) (B := Bm) (by have := hA.2.1; omega) h1 h2 h3 h4 h5
  have b : ∀ c i k x, ¬ (c = 12 ∧ i = 0 ∧ k = 1) → B' c i k x = B c i k x := fun c i k x n => by rw [x2 c i k n]
  have m : ∀ c i k x, ¬ (c = 14 ∧ i = 0 ∧ k = 4) → Bm' c i k x = Bm c i k x := fun c i k x n => by rw [y2 c i k n]
  have hT := hE.1.2.2.2.1
  have hT' : IT F B' Fm Bm' := by
    obtain ⟨t1, t2, t3, t4, t5⟩ := hT
    exact ⟨t1, t2, t3, fun y => by rw [b 0 0 0 y (by first | decide | omega)]; exact t4 y, by funext y; rw [b 0 0 0 y (by first | decide | omega), ← t5]; show Bm' 14 0 2 y % 256 = Bm 14 0 2 y % 256; rw [m 14 0 2 y (by first | decide | omega)]⟩
  refine ⟨_, _, _, _, _, _, x1, y1, p, p0, p1, w, w0, w1, IE_f hE rfl (fun _ _ => rfl) (Int.le_refl _) (fun _ _ _ _ _ _ _ _ => rfl) (fun c y k x _ _ _ _ n => b c y k x (by first | decide | omega)) (fun i k => ⟨fun _ => rfl, rfl⟩) ⟨fun i k x _ => m 13 i k x (by first | decide | omega), fun k x hk => m 14 0 k x (by first | decide | omega)⟩ hT', ?_, ?_, h7, ?_, hK⟩
  · exact ⟨hW.1, hW.2.1, fun j j0 j1 => by rw [b 0 1 0 j (by first | decide | omega), m 14 0 70 j (by first | decide | omega)]; exact hW.2.2 j j0 j1⟩
  · exact IOp_f hO rfl rfl (fun _ _ => rfl) (fun o k x => b 8 o k x (by first | decide | omega)) rfl (fun k x hk => m 14 0 k x (by first | decide | omega))
  · intro y y0 y1
    rw [x3, y3, if_pos ⟨y0, y1⟩, if_pos ⟨y0, y1⟩, bmod256]
    omega
theorem p_end {Km : Nat} (a1 : Int) (h1 : r32 a1) {K : zK} {F Fm : zF} {B Bm : zB} (h : IV cc Km K F B Fm Bm) : ∃ r1 F1 B1 r2 F2 B2, f_S_end K 0 a1 F B = some (r1, F1, B1) ∧ f_M_end Km a1 Fm Bm = some (r2, F2, B2) ∧ IV cc Km K F1 B1 F2 B2 ∧ r1 = r2 ∧ r32 r1 := by
  have hI := h
  obtain ⟨p, p0, p1, w, w0, w1, hE, hW, hO, h7, hX, hK⟩ := h
  have hA := hE.1.1
  have hB := hE.1.2.1
  obtain ⟨t1, t2, t3, t4, t5⟩ := hE.1.2.2.2.1
  have c := C_end (K := K) (l := a1) (F := F) (B := B) (by first | decide | omega) (by have := hA.2.2; omega) (by have := hA.2.2; omega) h1 hB.1 t2 t3
  have l := L_end (K := Km) (l := a1) (F := Fm) (B := Bm) (by have := hA.2.1; omega) h1 (by first | decide | omega) (by first | decide | omega)
  by_cases z : a1 < 0 ∨ 20 < a1 ∨ 3000 < F 0 0 1 + a1
  · exact ⟨_, _, _, _, _, _, c.1 z, l.1 (by first | decide | omega), hI, rfl, by decide⟩
  · obtain ⟨F', B', x1, x2, x3, x4, x5⟩ := c.2 (by first | decide | omega) (by first | decide | omega) (by first | decide | omega)
    obtain ⟨Bm', y1, y2, y3⟩ := l.2 (by first | decide | omega) (by first | decide | omega) (by first | decide | omega)
    have b : ∀ c i k x, ¬ (c = 0 ∧ i = 0 ∧ k = 0) → B' c i k x = B c i k x := fun c i k x n => by rw [x4 c i k n]
    have m : ∀ c i k x, ¬ (c = 14 ∧ i = 0 ∧ k = 2) → Bm' c i k x = Bm c i k x := fun c i k x n => by rw [y2 c i k n]
    have g : ∀ c i k, ¬ (c = 14 ∧ i = 0 ∧ k = 3) → (zup3 Fm 14 0 3 (Fm 14 0 3 + a1)) c i k = Fm c i k := fun c i k n => by rw [zup3_v, if_neg n]
    have hT' : IT F' B' (zup3 Fm 14 0 3 (Fm 14 0 3 + a1)) Bm' := by
      refine ⟨by rw [x2, zup3_v, if_pos (by first | decide | omega), t1], (by first | decide | omega), (by first | decide | omega), fun y => ?_, ?_⟩
      · rw [x5]
        split
        · rw [zand255]; omega
        · exact t4 y
      · funext y
        show Bm' 14 0 2 y % 256 = _
        rw [x5, y3]
        have o : Bm 14 0 2 y % 256 = B 0 0 0 y := congrFun t5 y
        unfold endRow
        by_cases q : F 0 0 1 ≤ y ∧ y < F 0 0 1 + a1
        · rw [if_pos q, if_pos (by first | decide | omega), zand255, zi2b_1, hX (y - F 0 0 1) (by first | decide | omega) (by first | decide | omega), t1]
        · rw [if_neg q, if_neg (by first | decide | omega), o]
    refine ⟨_, _, _, _, _, _, x1, y1, ⟨p, p0, p1, w, w0, w1, IE_f hE rfl (fun _ _ => rfl) (Int.le_refl _) (fun c y k n _ _ _ _ => x3 c y k (by first | decide | omega)) (fun c y k x n _ _ _ _ => b c y k x (by first | decide | omega)) (fun i k => ⟨fun _ => g 13 i k (by first | decide | omega), g 14 0 6 (by first | decide | omega)⟩) ⟨fun i k x _ => m 13 i k x (by first | decide | omega), fun k x hk => m 14 0 k x (by first | decide | omega)⟩ hT', ?_, ?_, by rw [x3 7 0 4 (by first | decide | omega)]; exact h7, ?_, hK⟩, (by first | decide | omega), by unfold r32; omega⟩
    · refine ⟨by rw [x3 0 1 1 (by first | decide | omega), g 14 0 71 (by first | decide | omega)]; exact hW.1, by rw [x3 0 1 1 (by first | decide | omega)]; exact hW.2.1, fun j j0 j1 => ?_⟩
      rw [x3 0 1 1 (by first | decide | omega)] at j1
      rw [b 0 1 0 j (by first | decide | omega), m 14 0 70 j (by first | decide | omega)]; exact hW.2.2 j j0 j1
    · exact IOp_f hO (x3 12 0 8 (by first | decide | omega)) (x3 12 0 9 (by first | decide | omega)) (fun o k => x3 8 o k (by first | decide | omega)) (fun o k x => b 8 o k x (by first | decide | omega)) (g 14 0 72 (by first | decide | omega)) (fun k x hk => m 14 0 k x (by first | decide | omega))
    · intro y y0 y1
      rw [b 12 0 1 y (by first | decide | omega), m 14 0 4 y (by first | decide | omega)]; exact hX y y0 y1
theorem p_out {Km : Nat} (a1 : Int) (h1 : r32 a1) {K : zK} {F Fm : zF} {B Bm : zB} (h : IV cc Km K F B Fm Bm) : ∃ r1 F1 B1 r2 F2 B2, f_S_out K 0 a1 F B = some (r1, F1, B1) ∧ f_M_out Km a1 Fm Bm = some (r2, F2, B2) ∧ IV cc Km K F1 B1 F2 B2 := by
  have hI := h
  obtain ⟨p, p0, p1, w, w0, w1, hE, hW, hO, h7, hX, hK⟩ := h
  have hA := hE.1.1
  have hB := hE.1.2.1
  exact ⟨_, _, _, _, _, _, C_out (by have := hA.2.2; omega) (by have := hA.2.2; omega) h1 hB.2.1 hW.2.1.1 hW.2.1.2, L_out h1 (by have := hW.1; have := hW.2.1; omega) (by have := hW.1; have := hW.2.1; omega), hI⟩
theorem p_again {Km : Nat} {K : zK} {F Fm : zF} {B Bm : zB} (h : IV cc Km K F B Fm Bm) : ∃ r1 F1 B1 r2 F2 B2, f_S_again K 0 F B = some (r1, F1, B1) ∧ f_M_again Km Fm Bm = some (r2, F2, B2) ∧ IV cc Km K F1 B1 F2 B2 := by
  have hI := h
  obtain ⟨p, p0, p1, w, w0, w1, hE, hW, hO, h7, hX, hK⟩ := h
  have hA := hE.1.1
  have hB := hE.1.2.1
  obtain ⟨t1, t2, t3, t4, t5⟩ := hE.1.2.2.2.1
  obtain ⟨v1, v2, v3⟩ := hW
  have c := C_again (K := K) (F := F) (B := B) (by first | decide | omega) (by have := hA.2.2; omega) (by have := hA.2.2; omega) hB.1 hB.2.1 v2.1 v2.2
  have l := L_again (K := Km) (F := Fm) (B := Bm) (by have := hA.2.1; omega) (by first | decide | omega) (by first | decide | omega)
  by_cases z : F 0 1 1 = 0 ∨ 3000 < F 0 1 1
  · exact ⟨_, _, _, _, _, _, c.1 z, l.1 (by first | decide | omega), hI⟩
  · obtain ⟨F', B', x1, x2, _, x3, x4, x5⟩ := c.2 (by first | decide | omega) (by first | decide | omega)
    obtain ⟨Bm', y1, y2, y3⟩ := l.2 (by first | decide | omega) (by first | decide | omega)
    have b : ∀ c i k x, ¬ (c = 0 ∧ i = 0 ∧ k = 0) → B' c i k x = B c i k x := fun c i k x n => by rw [x4 c i k n]
    have m : ∀ c i k x, ¬ (c = 14 ∧ i = 0 ∧ k = 2) → Bm' c i k x = Bm c i k x := fun c i k x n => by rw [y2 c i k n]
    have g : ∀ c i k, ¬ (c = 14 ∧ i = 0 ∧ k = 3) → (zup3 Fm 14 0 3 (Fm 14 0 71)) c i k = Fm c i k := fun c i k n => by rw [zup3_v, if_neg n]
    have hT' : IT F' B' (zup3 Fm 14 0 3 (Fm 14 0 71)) Bm' := by
      refine ⟨by rw [x2, zup3_v, if_pos (by first | decide | omega), v1], (by first | decide | omega), (by first | decide | omega), fun y => ?_, ?_⟩
      · rw [x5]
        split
        · rw [zand255]; omega
        · exact t4 y
      · funext y
        show Bm' 14 0 2 y % 256 = _
        rw [x5, y3]
        have o : Bm 14 0 2 y % 256 = B 0 0 0 y := congrFun t5 y
        by_cases q : 0 ≤ y ∧ y < F 0 1 1
        · rw [if_pos q, if_pos (by first | decide | omega), zand255, zi2b_1, v3 y q.1 q.2]
          omega
        · rw [if_neg q, if_neg (by first | decide | omega), o]
    refine ⟨_, _, _, _, _, _, x1, y1, p, p0, p1, w, w0, w1, IE_f hE rfl (fun _ _ => rfl) (Int.le_refl _) (fun c y k n _ _ _ _ => x3 c y k (by first | decide | omega)) (fun c y k x n _ _ _ _ => b c y k x (by first | decide | omega)) (fun i k => ⟨fun _ => g 13 i k (by first | decide | omega), g 14 0 6 (by first | decide | omega)⟩) ⟨fun i k x _ => m 13 i k x (by first | decide | omega), fun k x hk => m 14 0 k x (by first | decide | omega)⟩ hT', ?_, ?_, by rw [x3 7 0 4 (by first | decide | omega)]; exact h7, ?_, hK⟩
    · refine ⟨by rw [x3 0 1 1 (by first | decide | omega), g 14 0 71 (by first | decide | omega)]; exact v1, by rw [x3 0 1 1 (by first | decide | omega)]; exact v2, fun j j0 j1 => ?_⟩
      rw [x3 0 1 1 (by first | decide | omega)] at j1
      rw [b 0 1 0 j (by first | decide | omega), m 14 0 70 j (by first | decide | omega)]; exact v3 j j0 j1
    · exact IOp_f hO (x3 12 0 8 (by first | decide | omega)) (x3 12 0 9 (by first | decide | omega)) (fun o k => x3 8 o k (by first | decide | omega)) (fun o k x => b 8 o k x (by first | decide | omega)) (g 14 0 72 (by first | decide | omega)) (fun k x hk => m 14 0 k x (by first | decide | omega))
    · intro y y0 y1
      rw [b 12 0 1 y (by first | decide | omega), m 14 0 4 y (by first | decide | omega)]; exact hX y y0 y1
theorem p_open {Km : Nat} {K : zK} {F Fm : zF} {B Bm : zB} (h : IV cc Km K F B Fm Bm) : ∃ r1 F1 B1 K1 r2 F2 B2, f_S_open K 0 F B = some (r1, F1, B1, K1) ∧ f_M_open Km Fm Bm = some (r2, F2, B2) ∧ IV cc Km K1 F1 B1 F2 B2 := by
  obtain ⟨p, p0, p1, w, w0, w1, hE, hW, hO, h7, hX, hK⟩ := h
  have hA := hE.1.1
  have hB := hE.1.2.1
  obtain ⟨r, F', B', K', Fm', Bm', x1, x2, _, x4, x5, x6, x7, x8, x9, x10⟩ := P_op (K := K) (Km := Km) (by have := hA.2.2; omega) (by have := hA.2.2; omega) (by first | decide | omega) (by have := hA.2.1; omega) hB.1 hE.1.2.2.2.1 hO
  have k1 : K'.1 = K.1 := by
    rcases x4 with z | ⟨_, z⟩ <;> rw [z]
  have kc : ∀ c, ¬ c = 8 → K'.2 c = K.2 c := fun c hc => by
    rcases x4 with z | ⟨_, z⟩
    · rw [z]
    · rw [z]; show zinN K.2 8 c = K.2 c; rw [zinN_v, if_neg hc]
  have k8 : K.2 8 ≤ K'.2 8 := by
    rcases x4 with z | ⟨_, z⟩
    · rw [z]; exact Int.le_refl _
    · rw [z]; show K.2 8 ≤ zinN K.2 8 8; rw [zinN_v, if_pos rfl]; omega
  refine ⟨_, _, _, _, _, _, _, x1, x2, p, p0, p1, w, w0, w1, IE_f hE k1 kc k8 (fun c y k a1 a2 a3 a4 a5 => x5 c y k (by first | decide | omega)) (fun c y k x a1 a2 a3 a4 a5 => x6 c y k x a3) (fun i k => ⟨fun _ => x7 13 i k (by first | decide | omega), x7 14 0 6 (by first | decide | omega)⟩) ⟨fun i k x _ => x8 13 i k x (by first | decide | omega), fun k x hk => x8 14 0 k x (by first | decide | omega)⟩ x9, ?_, x10, by rw [x5 7 0 4 (by first | decide | omega)]; exact h7, ?_, by rw [k1]; exact hK⟩
  · refine ⟨by rw [x5 0 1 1 (by first | decide | omega), x7 14 0 71 (by first | decide | omega)]; exact hW.1, by rw [x5 0 1 1 (by first | decide | omega)]; exact hW.2.1, fun j j0 j1 => ?_⟩
    rw [x5 0 1 1 (by first | decide | omega)] at j1
    rw [x6 0 1 0 j (by first | decide | omega), x8 14 0 70 j (by first | decide | omega)]; exact hW.2.2 j j0 j1
  · intro y y0 y1
    rw [x6 12 0 1 y (by first | decide | omega), x8 14 0 4 y (by first | decide | omega)]; exact hX y y0 y1
theorem p_down {Km : Nat} (a1 : Int) (h1 : r32 a1) {K : zK} {F Fm : zF} {B Bm : zB} (h : IV cc Km K F B Fm Bm) : ∃ r1 F1 B1 r2 F2 B2, f_S_down K 0 a1 F B = some (r1, F1, B1) ∧ f_M_down Km a1 Fm Bm = some (r2, F2, B2) ∧ IV cc Km K F1 B1 F2 B2 := by
  obtain ⟨p, p0, p1, w, w0, w1, hE, hW, hO, h7, hX, hK⟩ := h
  have hA := hE.1.1
  have hB := hE.1.2.1
  have hN := hE.1.2.2.2.2.1
  have hD := hE.1.2.2.1.1.1
  obtain ⟨t1, t2, t3, t4, t5⟩ := hE.1.2.2.2.1
  obtain ⟨r, F', B', Fm', Bm', x1, x2, _, x5, x6, x7, x8, x9, x10⟩ := P_dw (K := K) (Km := Km) (x := a1) (w := w) (F := F) (B := B) (Fm := Fm) (Bm := Bm) ⟨by have := hA.2.2; omega, by have := hA.2.2; omega, by have := hD 1 (by decide); omega, hK⟩ hA.2.1 (by have := hA.2.2; omega) h1 hB.2.1 hB.2.2.2.2.1 h7 ⟨hN.2.2.2.1, hE.1.2.2.2.2.2.1.1⟩ hO hW
  have hT' : IT F' B' Fm' Bm' := ⟨by rw [x5 0 0 1 (by first | decide | omega), x7 14 0 3 (by first | decide | omega) (by first | decide | omega)]; exact t1, by rw [x5 0 0 1 (by first | decide | omega)]; exact t2, by rw [x5 0 0 1 (by first | decide | omega)]; exact t3, fun y => by rw [x6 0 0 0 y (by first | decide | omega)]; exact t4 y, by funext y; rw [x6 0 0 0 y (by first | decide | omega), ← t5]; show Bm' 14 0 2 y % 256 = Bm 14 0 2 y % 256; rw [x8 14 0 2 y (by first | decide | omega) (by first | decide | omega)]⟩
  refine ⟨_, _, _, _, _, _, x1, x2, p, p0, p1, w, w0, w1, IE_f hE rfl (fun _ _ => rfl) (Int.le_refl _) (fun c y k a1 a2 a3 a4 a5 => x5 c y k (by first | decide | omega)) (fun c y k x a1 a2 a3 a4 a5 => x6 c y k x (by first | decide | omega)) (fun i k => ⟨fun hk => x7 13 i k (by first | decide | omega) (by first | decide | omega), x7 14 0 6 (by first | decide | omega) (by first | decide | omega)⟩) ⟨fun i k x hk => x8 13 i k x (by first | decide | omega) (by first | decide | omega), fun k x hk => x8 14 0 k x (by first | decide | omega) (by first | decide | omega)⟩ hT', x10, x9, by rw [x5 7 0 4 (by first | decide | omega)]; exact h7, ?_, hK⟩
  intro y y0 y1
  rw [x6 12 0 1 y (by first | decide | omega), x8 14 0 4 y (by first | decide | omega) (by first | decide | omega)]; exact hX y y0 y1
end
end
section
section
variable {cc : Int}
/-! ===== the calls of file and perform ===== -/
theorem C_atx {K : zK} {l : Int} {F : zF} {B : zB} (hl : r32 l) (h : l < 0 ∨ 2 ≤ l) : f_S_pieceAt K 0 l F B = some (-1, F, B) := by
  unfold f_S_pieceAt f_S_pieceAt_9 f_S_pieceAt_19
  rw [if_pos hl]
  by_cases a : l < 0
  · rw [if_pos a]
  · rw [if_neg a, if_neg (by first | decide | omega)]
theorem L_atx {Km : Nat} {l : Int} {F : zF} {B : zB} (hl : r32 l) (h : l < 0 ∨ 2 ≤ l) : f_M_piece Km l F B = some (-1, F, B) := by
  unfold f_M_piece f_M_piece_30 f_M_piece_31
  rw [if_pos hl]
  by_cases a : l < 0
  · rw [if_pos a]
  · rw [if_neg a, if_pos (by first | decide | omega)]
theorem p_file {Km : Nat} (a1 : Int) (h1 : r32 a1) {K : zK} {F Fm : zF} {B Bm : zB} (h : IV cc Km K F B Fm Bm) : ∃ r1 F1 B1 r2 F2 B2, f_S_file K 0 a1 F B = some (r1, F1, B1) ∧ f_M_file Km a1 Fm Bm = some (r2, F2, B2) ∧ IV cc Km K F1 B1 F2 B2 := by
  have hI := h
  obtain ⟨p, p0, p1, w, w0, w1, hE, hW, hO, h7, hX, hK⟩ := h
  have hA := hE.1.1
  have hB := hE.1.2.1
  obtain ⟨t1, t2, t3, t4, t5⟩ := hE.1.2.2.2.1
  obtain ⟨n1, n2, n3, n4, n5, n6⟩ := hE.1.2.2.2.2.1
  have hWw := hE.1.2.2.2.2.2.1
  have s0 := hE.1.2.2.2.2.2.2.2.2.2.1
  have s1 := hE.1.2.2.2.2.2.2.2.2.2.2
  have h12 : 0 < K.2 12 := by have := hA.2.2; omega
  by_cases z : a1 < 0 ∨ 2 ≤ a1
  · refine ⟨-1, F, B, -1, Fm, Bm, ?_, ?_, hI⟩
    · have x1 := C_atx (K := K) (F := F) (B := B) h1 z
      unfold f_S_file f_S_performanceOf f_S_performanceOf_17 f_S_performanceOf_25 f_S_file_20
      rw [if_pos ⟨(by first | decide | omega), h12⟩, x1, zb_s, if_pos ⟨(by first | decide | omega), h12⟩, x1, zb_s, if_pos (by decide), zb_s, if_pos (by decide)]
    · have x1 := L_atx (Km := Km) (F := Fm) (B := Bm) h1 z
      unfold f_M_file f_M_file_17
      rw [x1, zb_s, if_pos (by decide)]
  · have go : ∀ q v, B 12 0 3 a1 = q → Bm 14 0 5 a1 = v → 0 ≤ v ∧ v < 3 → SLD K q v F B Fm Bm → ∃ r1 F1 B1 r2 F2 B2, f_S_file K 0 a1 F B = some (r1, F1, B1) ∧ f_M_file Km a1 Fm Bm = some (r2, F2, B2) ∧ IV cc Km K F1 B1 F2 B2 := fun q v eq ev hv hs => by
      obtain ⟨r, F', B', r', Fm', Bm', x1, x2, _, x4⟩ := P_fl (K := K) (Km := Km) (by have := hA.2.2; omega) (by first | decide | omega) (by have := hA.2.1; omega) h12 hB.2.1 (show 0 ≤ a1 ∧ a1 < 2 by omega) eq ev hv hs
      rcases x4 with ⟨_, rfl, rfl, rfl, rfl⟩ | ⟨rb, ⟨y1, y2, y3⟩, y4, f, b, g, m⟩
      · exact ⟨_, _, _, _, _, _, x1, x2, hI⟩
      · have f : ∀ c y k, ¬ (c = 0 ∧ y = 1 ∧ 1 ≤ k ∧ k ≤ 2) → F' c y k = F c y k := f
        have b : ∀ c y k x, ¬ (c = 0 ∧ y = 1 ∧ k = 0) → B' c y k x = B c y k x := b
        have g : ∀ c y k, ¬ (c = 14 ∧ y = 0 ∧ k = 71) → Fm' c y k = Fm c y k := g
        have m : ∀ c y k x, ¬ (c = 14 ∧ y = 0 ∧ k = 70) → Bm' c y k x = Bm c y k x := m
        have hT' : IT F' B' Fm' Bm' := ⟨by rw [f 0 0 1 (by first | decide | omega), g 14 0 3 (by first | decide | omega)]; exact t1, by rw [f 0 0 1 (by first | decide | omega)]; exact t2, by rw [f 0 0 1 (by first | decide | omega)]; exact t3, fun y => by rw [b 0 0 0 y (by first | decide | omega)]; exact t4 y, by funext y; rw [b 0 0 0 y (by first | decide | omega), ← t5]; show Bm' 14 0 2 y % 256 = Bm 14 0 2 y % 256; rw [m 14 0 2 y (by first | decide | omega)]⟩
        refine ⟨_, _, _, _, _, _, x1, x2, p, p0, p1, w, w0, w1, IE_f hE rfl (fun _ _ => rfl) (Int.le_refl _) (fun c y k n _ _ _ _ => f c y k (by first | decide | omega)) (fun c y k x n _ _ _ _ => b c y k x (by first | decide | omega)) (fun i k => ⟨fun _ => g 13 i k (by first | decide | omega), g 14 0 6 (by first | decide | omega)⟩) ⟨fun i k x _ => m 13 i k x (by first | decide | omega), fun k x hk => m 14 0 k x (by first | decide | omega)⟩ hT', ?_, ?_, by rw [f 7 0 4 (by first | decide | omega)]; exact h7, ?_, hK⟩
        · exact ⟨(by first | decide | omega), (by first | decide | omega), fun j j0 j1 => y4 j j0 (by first | decide | omega)⟩
        · exact IOp_f hO (f 12 0 8 (by first | decide | omega)) (f 12 0 9 (by first | decide | omega)) (fun o k => f 8 o k (by first | decide | omega)) (fun o k x => b 8 o k x (by first | decide | omega)) (g 14 0 72 (by first | decide | omega)) (fun k x hk => m 14 0 k x (by first | decide | omega))
        · intro y y0 y1
          rw [b 12 0 1 y (by first | decide | omega), m 14 0 4 y (by first | decide | omega)]; exact hX y y0 y1
    rcases (show a1 = 0 ∨ a1 = 1 by omega) with e | e
    · exact go p0 w0 (by rw [e]; exact n2) (by rw [e]; exact n5) hWw.2.1 (SLD_of s0 hE.2.2.2.1)
    · exact go p1 w1 (by rw [e]; exact n3) (by rw [e]; exact n6) hWw.2.2.1 (SLD_of s1 hE.2.2.2.2.1)
end
end
section
section
variable {cc : Int}
/-! ===== the call of perform ===== -/
theorem MK_p {V w : Int} {F F' : zF} {B B' : zB} (h : MK V w F B) (f : F' 13 w 7 = F 13 w 7 ∧ F' 13 w 72 = F 13 w 72 ∧ F' 13 w 76 = F 13 w 76) (b : ∀ k x, k ≤ 46 ∨ 73 ≤ k → B' 13 w k x = B 13 w k x) : MK V w F' B' := by
  obtain ⟨h1, h2, h3⟩ := h
  refine ⟨MW5_f h1 f.2.1 (fun k x hk => b k x (by first | decide | omega)), ?_, by rw [f.2.2]; exact h3⟩
  rw [f.1]
  exact CDm_a h2 (fun k x hk => b k x (by first | decide | omega))
theorem IOp_g {K K' : zK} {F F' : zF} {B B' : zB} {Fm Fm' : zF} {Bm Bm' : zB} (h : IOp K F B Fm Bm) (k8 : K'.2 8 = K.2 8) (f8 : F' 12 0 8 = F 12 0 8) (f9 : F' 12 0 9 = F 12 0 9) (f : ∀ o k, o < K.2 8 → F' 8 o k = F 8 o k) (b : ∀ o k x, o < K.2 8 → B' 8 o k x = B 8 o k x) (g : Fm' 14 0 72 = Fm 14 0 72) (m : ∀ k x, k = 73 ∨ (75 ≤ k ∧ k ≤ 81) → Bm' 14 0 k x = Bm 14 0 k x) : IOp K' F' B' Fm' Bm' := by
  obtain ⟨h1, h2, h3, h4⟩ := h
  unfold IOp
  rw [f8, f9, g, k8]
  refine ⟨h1, h2, h3, ?_⟩
  rcases h4 with h4 | ⟨a, c, e⟩
  · exact Or.inl h4
  · exact Or.inr ⟨a, c, OPN_f e (f _ _ h1.2) (fun k x => b _ k x h1.2) m⟩
theorem IE_pf {cd : Int} {K K' : zK} {Km : Nat} {p p0 p1 w w0 w1 q v s V : Int} {F F' : zF} {B B' : zB} {Fm Fm' : zF} {Bm Bm' : zB} (h : IE cc K Km p p0 p1 w w0 w1 F B Fm Bm) (hq : (q = p0 ∧ v = w0) ∨ (q = p1 ∧ v = w1)) (hP : PK K V q v F B Fm Bm) (hM : MK V v Fm Bm) (m0 : Fm 13 v 0 = 1) (k1 : K'.1 = K.1) (sb : 0 ≤ s ∧ s < K'.2 5) (sc : (s = F 6 q 9 ∧ K' = K) ∨ (F 6 q 9 < 0 ∧ s = K.2 5 ∧ K' = (K.1, zinN K.2 5))) (e9 : F' 6 q 9 = s) (f : pfF K q s F F') (b : pfB K s B B') (g : pfG v Fm Fm') (m : pfM v Bm Bm') (hD : PD K' V q v F' B' Fm' Bm') (hU' : IU cd K' F' B' Fm' Bm') : IE cd K' Km p p0 p1 w w0 w1 F' B' Fm' Bm' := by
  obtain ⟨⟨⟨a1, a2, a3⟩, hB, ⟨d1, d2, d3, d4, d5, d6, d7⟩, hT, ⟨n1, n2, n3, n4, n5, n6⟩, hW, hQ, hG, hF, s0, s1⟩, t61, hS, e0, e1, hU, l0, l1⟩ := h
  have hq0 := hP.1.1
  have kc : ∀ c, ¬ c = 5 → K'.2 c = K.2 c := fun c hc => by
    rcases sc with ⟨_, z⟩ | ⟨_, _, z⟩
    · rw [z]
    · rw [z]; show zinN K.2 5 c = K.2 c; rw [zinN_v, if_neg hc]
  have k5 : K.2 5 ≤ K'.2 5 := by
    rcases sc with ⟨_, z⟩ | ⟨_, _, z⟩
    · rw [z]; exact Int.le_refl _
    · rw [z]; show K.2 5 ≤ zinN K.2 5 5; rw [zinN_v, if_pos rfl]; omega
  have kk : ∀ c, K.2 c ≤ K'.2 c := fun c => by
    by_cases z : c = 5
    · rw [z]; exact k5
    · rw [kc c z]; exact Int.le_refl _
  have f12 : ∀ k, F' 12 0 k = F 12 0 k := fun k => f 12 0 k (by first | decide | omega) (by first | decide | omega) (by first | decide | omega)
  have f3 : ∀ k, F' 3 0 k = F 3 0 k := fun k => f 3 0 k (by first | decide | omega) (by first | decide | omega) (by first | decide | omega)
  have f6 : ∀ y k, y < K.2 6 → ¬ (y = q ∧ 9 ≤ k ∧ k ≤ 11) → F' 6 y k = F 6 y k := fun y k hy n => f 6 y k hy (by first | decide | omega) (by first | decide | omega)
  have f4 : ∀ y k, y < K.2 4 → F' 4 y k = F 4 y k := fun y k hy => f 4 y k hy (by first | decide | omega) (by first | decide | omega)
  have b4 : ∀ y k x, y < K.2 4 → B' 4 y k x = B 4 y k x := fun y k x hy => b 4 y k x hy (by first | decide | omega)
  have b6 : ∀ y k x, y < K.2 6 → B' 6 y k x = B 6 y k x := fun y k x hy => b 6 y k x hy (by first | decide | omega)
  have q1 := kc 1 (by decide)
  have q4 := kc 4 (by decide)
  have q6 := kc 6 (by decide)
  have gs : GS K' B' := by
    have := GS_B d1 (B' := B') (fun p v _ z => b6 p 0 v z) (fun q x _ z => b4 q 5 x z)
    obtain ⟨g1, g2, g3, g4, g5⟩ := this
    refine ⟨fun c hc => ?_, by rw [q6, q4]; exact g2, by rw [q6]; exact g3, by rw [q4, q1]; exact g4, by rw [q4]; exact g5⟩
    have := g1 c hc
    rw [q1, kc c (by first | decide | omega)]
    exact this
  have hi1 : ∀ y i, 0 ≤ y → y < K.2 4 → 0 ≤ i → i < 200 → B 4 y 5 i < K.2 1 := fun y i a b c d => (d1.2.2.2.1 y i a b c d).2
  have hsl : ∀ y u, ¬ u = v → SL K y u F B Fm Bm → SL K' y u F' B' Fm' Bm' := fun y u hu s => SL_e s kk (fun _ hy k hk => f6 y k hy (by first | decide | omega)) (fun _ hy v => b6 y 0 v hy) (fun y k _ hy _ _ _ => ⟨f4 y k hy, fun x => b4 y k x hy⟩) (fun y i k y0 hy _ _ _ i0 i1 => ⟨f 1 _ k (hi1 y i y0 hy i0 i1) (by first | decide | omega) (by first | decide | omega), fun x => b 1 _ k x (hi1 y i y0 hy i0 i1) (by first | decide | omega)⟩) (fun k => g 13 u k (by first | decide | omega) (by first | decide | omega)) (fun k x => m 13 u k x (by first | decide | omega) (by first | decide | omega))
  have hq4 : ∀ u, 0 ≤ u → u < V → (0 ≤ B 6 q 0 u ∧ B 6 q 0 u < K.2 4) := fun u u0 u1 => (hP.2.2 u u0 u1).1.1
  have olt : ∀ (c j : Nat) (y : Int), (c = 2 ∧ j = 8) ∨ (c = 9 ∧ j = 12) → 0 ≤ y → y < K.2 6 → F 6 y j < K.2 c := fun c j y hc y0 y1 => by
    have o := hF y y0 y1
    rcases hc with ⟨rfl, rfl⟩ | ⟨rfl, rfl⟩
    · exact o.1
    · exact o.2.2
  have hln : ∀ y u, SL K y u F B Fm Bm → LNk y u F B Fm Bm → LNk y u F' B' Fm' Bm' := fun y u s l => LNk_e l s (fun _ hy k hk => f6 y k hy (by first | decide | omega)) (fun _ hy v => b6 y 0 v hy) (fun y k _ hy _ _ _ => ⟨f4 y k hy, fun x => b4 y k x hy⟩) (fun c j hc y0 y1 _ k => ⟨f c _ k (olt c j y hc y0 y1) (by first | decide | omega) (by first | decide | omega), fun x => b c _ k x (olt c j y hc y0 y1) (by first | decide | omega)⟩) (fun k hk => g 13 u k (by first | decide | omega) (by first | decide | omega)) (fun k x hk => m 13 u k x (by first | decide | omega) (by first | decide | omega))
  have slq : SL K' q v F' B' Fm' Bm' := by
    refine Or.inr ⟨hq0.1, by rw [g 13 v 0 (by first | decide | omega) (by first | decide | omega)]; exact m0, V, ?_, MK_p hM ⟨g 13 v 7 (by first | decide | omega) (by first | decide | omega), g 13 v 72 (by first | decide | omega) (by first | decide | omega), g 13 v 76 (by first | decide | omega) (by first | decide | omega)⟩ (fun k x hk => m 13 v k x (by first | decide | omega) (by first | decide | omega))⟩
    refine PK_e hP kk (fun k hk => f6 q k hq0.2 (by first | decide | omega)) (by funext u; exact b6 q 0 u hq0.2) (fun u u0 u1 => by funext k; exact f4 _ k (hq4 u u0 u1).2) (fun u u0 u1 => by funext k x; exact b4 _ k x (hq4 u u0 u1).2) (fun u i u0 u1 i0 i1 => ?_) (fun u i u0 u1 i0 i1 => ?_) (fun k hk _ => g 13 v k (by first | decide | omega) (by first | decide | omega)) (fun k x hk => m 13 v k x (by first | decide | omega) (by first | decide | omega))
    · funext k; exact f 1 _ k (hi1 _ i (hq4 u u0 u1).1 (hq4 u u0 u1).2 i0 i1) (by first | decide | omega) (by first | decide | omega)
    · funext k x; exact b 1 _ k x (hi1 _ i (hq4 u u0 u1).1 (hq4 u u0 u1).2 i0 i1) (by first | decide | omega)
  have ns : ∀ y, 0 ≤ y → y < K.2 6 → ¬ y = q → 0 ≤ F 6 y 9 → ¬ F 6 y 9 = s ∧ F 6 y 9 < K.2 5 := fun y y0 y1 n z => by
    have l := (hF y y0 y1).2.1
    rcases sc with ⟨a, _⟩ | ⟨_, a, _⟩
    · exact ⟨by rw [a]; exact hS.2 9 (by first | decide | omega) y q y0 y1 hq0.1 hq0.2 n z, l⟩
    · exact ⟨(by first | decide | omega), l⟩
  have hsd : ∀ y u, ¬ u = v → y < K.2 6 → ¬ y = q → SDk K y u F B Fm Bm → SDk K' y u F' B' Fm' Bm' := fun y u hu hy n s y0 => by
    rw [f6 y 1 hy (by first | decide | omega)]
    refine PD_e (s y0) k5 (fun k _ _ => f6 y k hy (by first | decide | omega)) (fun z => ?_) (fun z => ?_) (fun k => g 13 u k (by first | decide | omega) (by first | decide | omega)) (fun k x => m 13 u k x (by first | decide | omega) (by first | decide | omega))
    · have := ns y y0 hy n z
      funext k; exact f 5 _ k this.2 (by first | decide | omega) (by first | decide | omega)
    · have := ns y y0 hy n z
      funext k x; exact b 5 _ k x this.2 (by first | decide | omega)
  have sdq : SDk K' q v F' B' Fm' Bm' := fun _ => by
    rw [f6 q 1 hq0.2 (by first | decide | omega), hP.1.2.2.2.1]; exact hD
  have m14 : ∀ k, k = 13 ∨ k = 14 ∨ k = 15 ∨ k = 58 ∨ k = 61 → Bm' 14 0 k = Bm 14 0 k := fun k hk => by funext x; exact m 14 0 k x (by first | decide | omega) (by first | decide | omega)
  have ex : ∀ k, (36 ≤ k ∧ k ≤ 46) ∨ 77 ≤ k → ∀ i x, Bm' 13 i k x = Bm 13 i k x := fun k hk i x => m 13 i k x (by first | decide | omega) (by first | decide | omega)
  have fin : (SL K' p0 w0 F' B' Fm' Bm' ∧ SL K' p1 w1 F' B' Fm' Bm') ∧ SDk K' p0 w0 F' B' Fm' Bm' ∧ SDk K' p1 w1 F' B' Fm' Bm' := by
    obtain ⟨⟨z1, z2, z3⟩, z4, z5⟩ := hQ
    rcases hq with ⟨rfl, rfl⟩ | ⟨rfl, rfl⟩
    · exact ⟨⟨slq, hsl p1 w1 (fun e => hW.2.2.2.2.2 e.symm) s1⟩, sdq, hsd p1 w1 (fun e => hW.2.2.2.2.2 e.symm) z3 (fun e => z5 hq0.1 e.symm) e1⟩
    · have np : 0 ≤ p0 → ¬ p0 = q := z5
      refine ⟨⟨hsl p0 w0 hW.2.2.2.2.2 s0, slq⟩, fun z => hsd p0 w0 hW.2.2.2.2.2 z2 (np z) e0 z, sdq⟩
  have hT' : IT F' B' Fm' Bm' := by
    obtain ⟨t1, t2, t3, t4, t5⟩ := hT
    have e : F' 0 0 1 = F 0 0 1 := f 0 0 1 (by first | decide | omega) (by first | decide | omega) (by first | decide | omega)
    have eb : ∀ y, B' 0 0 0 y = B 0 0 0 y := fun y => b 0 0 0 y (by first | decide | omega) (by first | decide | omega)
    exact ⟨by rw [e, g 14 0 3 (by first | decide | omega) (by first | decide | omega)]; exact t1, by rw [e]; exact t2, by rw [e]; exact t3, fun y => by rw [eb]; exact t4 y, by funext y; rw [eb, ← t5]; show Bm' 14 0 2 y % 256 = Bm 14 0 2 y % 256; rw [m 14 0 2 y (by first | decide | omega) (by first | decide | omega)]⟩
  refine ⟨⟨⟨by rw [k1]; exact a1, a2, ?_⟩, ?_, ⟨gs, fun j => by rw [b 10 0 5 j (by first | decide | omega) (by first | decide | omega)]; exact d2 j, fun q s h1 h2 h3 h4 => by rw [b4 q 12 s (by first | decide | omega)]; exact d3 q s h1 (by first | decide | omega) h3 h4, ?_, ?_, ?_, ?_⟩, hT', ⟨by rw [f12 7]; exact n1, by rw [b 12 0 3 0 (by first | decide | omega) (by first | decide | omega)]; exact n2, by rw [b 12 0 3 1 (by first | decide | omega) (by first | decide | omega)]; exact n3, by rw [g 14 0 6 (by first | decide | omega) (by first | decide | omega)]; exact n4, by rw [m 14 0 5 0 (by first | decide | omega) (by first | decide | omega)]; exact n5, by rw [m 14 0 5 1 (by first | decide | omega) (by first | decide | omega)]; exact n6⟩, hW, ?_, ?_, ?_, fin.1.1, fin.1.2⟩, ?_, ?_, fin.2.1, fin.2.2, hU', hln p0 w0 s0 l0, hln p1 w1 s1 l1⟩
  · rw [kc 0 (by decide), kc 2 (by decide), kc 3 (by decide), kc 7 (by decide), kc 8 (by decide), kc 9 (by decide), kc 10 (by decide), kc 11 (by decide), kc 12 (by decide)]
    omega
  · unfold IB at *
    rw [f12 0, f12 2, f12 4, f12 5, f12 6, f3]; exact hB
  · unfold MW at *
    rw [m14 13 (by first | decide | omega), m14 14 (by first | decide | omega), m14 15 (by first | decide | omega)]; exact d4
  · unfold XS at *
    simp only [m14 58 (by first | decide | omega), ex 36 (by decide), ex 37 (by decide), ex 38 (by decide), ex 39 (by decide), ex 40 (by decide), ex 41 (by decide)]; exact d5
  · unfold XC at *
    simp only [ex 42 (by decide), ex 45 (by decide), ex 46 (by decide)]; exact d6
  · unfold X77 at *
    simp only [ex 77 (by decide), ex 78 (by decide), ex 79 (by decide), ex 80 (by decide)]; exact d7
  · unfold IQp at *
    rw [q6]; exact hQ
  · unfold IG at *
    rw [q6, q4, q1, slE_e (fun _ v => b6 p 0 v hQ.1.1), slE_e (fun _ v => b6 p0 0 v hQ.1.2.1), slE_e (fun _ v => b6 p1 0 v hQ.1.2.2)]; exact hG
  · intro y y0 y1
    have := hF y y0 (by first | decide | omega)
    rw [f6 y 8 (by first | decide | omega) (by first | decide | omega), f6 y 12 (by first | decide | omega) (by first | decide | omega), kc 2 (by decide), kc 9 (by decide)]
    refine ⟨this.1, ?_, this.2.2⟩
    by_cases z : y = q
    · rw [z, e9]; exact sb.2
    · rw [f6 y 9 (by first | decide | omega) (by first | decide | omega)]; omega
  · unfold T61 at *
    rw [m14 61 (by first | decide | omega)]; exact t61
  · refine ⟨fun y y0 y1 z => ?_, fun k hk y y' y0 y1 z0 z1 n => ?_⟩
    · by_cases e : y = q
      · rw [e] at z ⊢
        exact hD.2.2.2.1 z
      · rw [f6 y 9 (by first | decide | omega) (by first | decide | omega)] at z ⊢
        have r := hS.1 y y0 (by first | decide | omega) z
        have l := ns y y0 (by first | decide | omega) e z
        unfold rwS at *
        rw [f 5 _ 8 l.2 (by first | decide | omega) (by first | decide | omega), f 5 _ 9 l.2 (by first | decide | omega) (by first | decide | omega)]; exact r
    · by_cases k9 : k = 9
      · subst k9
        by_cases e : y = q
        · rw [e, e9, f6 y' 9 (by first | decide | omega) (by first | decide | omega)]
          intro _ c
          exact (ns y' z0 (by first | decide | omega) (by first | decide | omega) (by first | decide | omega)).1 c.symm
        · by_cases e' : y' = q
          · rw [e', e9, f6 y 9 (by first | decide | omega) (by first | decide | omega)]
            intro z
            exact (ns y y0 (by first | decide | omega) e z).1
          · rw [f6 y 9 (by first | decide | omega) (by first | decide | omega), f6 y' 9 (by first | decide | omega) (by first | decide | omega)]
            exact hS.2 9 hk y y' y0 (by first | decide | omega) z0 (by first | decide | omega) n
      · rw [f6 y k (by first | decide | omega) (by first | decide | omega), f6 y' k (by first | decide | omega) (by first | decide | omega)]
        exact hS.2 k hk y y' y0 (by first | decide | omega) z0 (by first | decide | omega) n
theorem IU_pf {K K' : zK} {q v s : Int} {F F' : zF} {B B' : zB} {Fm Fm' : zF} {Bm Bm' : zB} (hU : IU cc K F B Fm Bm) (sb : 0 ≤ s ∧ s < K'.2 5) (sc : (s = F 6 q 9 ∧ K' = K) ∨ (F 6 q 9 < 0 ∧ s = K.2 5 ∧ K' = (K.1, zinN K.2 5))) (f : pfF K q s F F') (b : pfB K s B B') (g : pfG v Fm Fm') (m : pfM v Bm Bm') (pu : pfU K s F F') (pv : pfV v Fm Fm') (v0 : 0 ≤ v ∧ v < 3) (hq0 : 0 ≤ q ∧ q < K.2 6) (e9 : F' 6 q 9 = s) : IU cc K' F' B' Fm' Bm' := by
  have kc : ∀ c, ¬ c = 5 → K'.2 c = K.2 c := fun c hc => by
    rcases sc with ⟨_, z⟩ | ⟨_, _, z⟩
    · rw [z]
    · rw [z]; show zinN K.2 5 c = K.2 c; rw [zinN_v, if_neg hc]
  have q6 := kc 6 (by decide)
  have f6 : ∀ y k, y < K.2 6 → ¬ (y = q ∧ 9 ≤ k ∧ k ≤ 11) → F' 6 y k = F 6 y k := fun y k hy n => f 6 y k hy (by first | decide | omega) (by first | decide | omega)
  have u0 := hU
  obtain ⟨c0, _, hU5, _, _, hUm, _⟩ := u0
  have k5' : ∀ x, x < K'.2 5 → x < K.2 5 ∨ x = s := fun x hx => by
    rcases sc with ⟨_, z⟩ | ⟨_, z0, z⟩
    · rw [z] at hx; exact Or.inl hx
    · rw [z] at hx
      have hx : x < zinN K.2 5 5 := hx
      rw [zinN_v, if_pos rfl] at hx
      omega
  have q0 : 0 ≤ q ∧ q < K.2 6 := hq0
  have kn : IKn K' F' := by
    rcases sc with ⟨z1, z2⟩ | ⟨z1, z2, z3⟩
    · refine IKn_f c0.2 (by rw [z2]) (by rw [z2]) (by rw [z2]) (by rw [z2]) (fun y k y0 y1 hk => ?_)
      by_cases e : y = q ∧ k = 9
      · rw [e.1, e.2, e9, z1]
      · exact f6 y k y1 (by first | decide | omega)
    · have o := c0.2
      have k5 : K'.2 5 = K.2 5 + 1 := by rw [z3]; show zinN K.2 5 5 = K.2 5 + 1; rw [zinN_v, if_pos rfl]
      have g := ngk_o (k := 9) (K := K) (K' := K') (q := q) (F := F) (F' := F') q6 o.1 q0 z1 (by rw [e9]; exact sb.1) (fun y y0 y1 n => f6 y 9 y1 (by first | decide | omega))
      unfold IKn at *
      rw [ngk_e (k := 8) (K' := K') (F' := F') q6 (fun y y0 y1 => f6 y 8 y1 (by first | decide | omega)), ngk_e (k := 12) (K' := K') (F' := F') q6 (fun y y0 y1 => f6 y 12 y1 (by first | decide | omega)), q6, k5, kc 2 (by decide), kc 9 (by decide)]
      omega
  refine IU_f hU kn (kc 2 (by decide)) (kc 9 (by decide)) (fun l _ hl => ⟨Or.inl (f 2 l 0 hl (by first | decide | omega) (by first | decide | omega)), f 2 l 4 hl (by first | decide | omega) (by first | decide | omega), fun k x => b 2 l k x hl (by first | decide | omega)⟩) (fun x x0 x1 => ?_) (fun t _ ht => ⟨fun k => f 9 t k ht (by first | decide | omega) (by first | decide | omega), fun k x => b 9 t k x ht (by first | decide | omega)⟩) (fun y _ y1 => Or.inr ⟨by rw [← q6]; exact y1, f6 y 13 (by rw [← q6]; exact y1) (by first | decide | omega), f6 y 12 (by rw [← q6]; exact y1) (by first | decide | omega)⟩) (fun i i0 i1 z => ?_) (fun k x hk => m 14 0 k x (by first | decide | omega) (by first | decide | omega))
  · by_cases e : x = s
    · rw [e]
      by_cases o : s < K.2 5
      · refine PXu_z c0.1 (hU5 s sb.1 o) (fun k hk => ?_)
        rcases pu k hk with z | z
        · exact Or.inl z
        · exact Or.inr z.2
      · have n : ∀ k, k = 2 ∨ k = 3 ∨ k = 11 ∨ k = 12 ∨ k = 13 → F' 5 s k = 0 := fun k hk => by
          rcases pu k hk with z | z
          · exact z
          · exact absurd z.1 o
        have c00 := c0.1
        unfold PXu
        rw [n 2 (by first | decide | omega), n 3 (by first | decide | omega), n 11 (by first | decide | omega), n 12 (by first | decide | omega), n 13 (by first | decide | omega)]
        omega
    · have l : x < K.2 5 := by
        rcases k5' x x1 with z | z
        · exact z
        · exact absurd z e
      exact PXu_e (hU5 x x0 l) (fun k _ => f 5 x k l (by first | decide | omega) (by first | decide | omega))
  · by_cases e : i = v
    · rw [e] at z ⊢
      rcases pv with pv | pv
      · exact PMu_0 c0.1 pv
      · rw [pv 53 (Or.inl rfl)] at z
        exact PMu_e (hUm v (by first | decide | omega) (by first | decide | omega) z) (fun k k0 k1 => pv k (Or.inr ⟨k0, k1⟩))
    · rw [g 13 i 53 (by first | decide | omega) (by first | decide | omega)] at z
      exact PMu_e (hUm i i0 i1 z) (fun k k0 k1 => g 13 i k (by first | decide | omega) (by first | decide | omega))
theorem p_perform {Km : Nat} (a1 : Int) (h1 : r32 a1) {K : zK} {F Fm : zF} {B Bm : zB} (h : IV cc Km K F B Fm Bm) : ∃ r1 F1 B1 K1 r2 F2 B2, f_S_perform K 0 a1 F B = some (r1, F1, B1, K1) ∧ f_M_perform Km a1 Fm Bm = some (r2, F2, B2) ∧ IV cc Km K1 F1 B1 F2 B2 := by
  have hI := h
  obtain ⟨p, p0, p1, w, w0, w1, hE, hW, hO, h7, hX, hK⟩ := h
  have hA := hE.1.1
  obtain ⟨n1, n2, n3, n4, n5, n6⟩ := hE.1.2.2.2.2.1
  have hWw := hE.1.2.2.2.2.2.1
  have s0 := hE.1.2.2.2.2.2.2.2.2.2.1
  have s1 := hE.1.2.2.2.2.2.2.2.2.2.2
  have h12 : 0 < K.2 12 := by have := hA.2.2; omega
  have out : f_S_pieceAt K 0 a1 F B = some (-1, F, B) ∨ (∃ q, q < 0 ∧ f_S_pieceAt K 0 a1 F B = some (q, F, B)) → f_M_piece Km a1 Fm Bm = some (-1, Fm, Bm) → ∃ r1 F1 B1 K1 r2 F2 B2, f_S_perform K 0 a1 F B = some (r1, F1, B1, K1) ∧ f_M_perform Km a1 Fm Bm = some (r2, F2, B2) ∧ IV cc Km K1 F1 B1 F2 B2 := fun c l => by
    obtain ⟨q, q0, c⟩ : ∃ q, q < 0 ∧ f_S_pieceAt K 0 a1 F B = some (q, F, B) := by
      rcases c with c | c
      · exact ⟨-1, (by first | decide | omega), c⟩
      · exact c
    refine ⟨-1, F, B, K, -1, Fm, Bm, ?_, ?_, hI⟩
    · unfold f_S_perform
      rw [if_pos ⟨(by first | decide | omega), h12⟩, c]
      simp only [zbN_s]
      rw [if_pos q0]
    · unfold f_M_perform
      rw [l, zb_s, if_pos (by decide)]
  by_cases z : a1 < 0 ∨ 2 ≤ a1
  · exact out (Or.inl (C_atx h1 z)) (L_atx h1 z)
  · have hl : 0 ≤ a1 ∧ a1 < 2 := by omega
    have go : ∀ q v, B 12 0 3 a1 = q → Bm 14 0 5 a1 = v → 0 ≤ v ∧ v < 3 → ((q = p0 ∧ v = w0) ∨ (q = p1 ∧ v = w1)) → SLD K q v F B Fm Bm → ∃ r1 F1 B1 K1 r2 F2 B2, f_S_perform K 0 a1 F B = some (r1, F1, B1, K1) ∧ f_M_perform Km a1 Fm Bm = some (r2, F2, B2) ∧ IV cc Km K1 F1 B1 F2 B2 := fun q v eq ev hv hc hs => by
      have x1 := C_at (K := K) (F := F) h12 hl eq
      rcases hs with ⟨q0, m0⟩ | ⟨q0, m0, V, hP, hM, hD⟩
      · have x3 := L_at (Km := Km) (F := Fm) hl ev hv (Or.inl m0)
        rw [if_pos m0] at x3
        exact out (Or.inr ⟨q, q0, x1⟩) x3
      · have x3 := L_at (Km := Km) (F := Fm) hl ev hv (Or.inr m0)
        rw [if_neg (by first | decide | omega)] at x3
        obtain ⟨r, s, F', B', K', Fm', Bm', y1, y2, y3, y4, y5, y6, y7, y8, y9, y10, y11, y12, y13⟩ := P_prf (K := K) (Km := Km) (by first | decide | omega) (by have := hA.2.1; omega) (by have := hA.2.2; omega) hP hE.2.1 hD
        have kc : ∀ c, ¬ c = 5 → K'.2 c = K.2 c := fun c hc => by
          rcases y5 with ⟨_, z⟩ | ⟨_, _, z⟩
          · rw [z]
          · rw [z]; show zinN K.2 5 c = K.2 c; rw [zinN_v, if_neg hc]
        have a3 := hA.2.2
        have hWv : 0 ≤ v ∧ v < 3 := hv
        refine ⟨r, F', B', K', r, Fm', Bm', ?_, ?_, p, p0, p1, w, w0, w1, IE_pf hE hc hP hM m0 y3 y4 y5 y6 y7 y8 y9 y10 y11 (IU_pf hE.2.2.2.2.2.1 y4 y5 y7 y8 y9 y10 y12 y13 hWv hP.1.1 y6), ?_, ?_, ?_, ?_, by rw [y3]; exact hK⟩
        · unfold f_S_perform
          rw [if_pos ⟨(by first | decide | omega), h12⟩, x1]
          simp only [zbN_s]
          rw [if_neg (by first | decide | omega), if_pos hP.1.1, if_pos hP.1.1.2]
          exact y1
        · unfold f_M_perform
          rw [x3, zb_s, if_neg (by first | decide | omega), if_pos hv]
          exact y2
        · have e : F' 0 1 1 = F 0 1 1 := y7 0 1 1 (by first | decide | omega) (by first | decide | omega) (by first | decide | omega)
          refine ⟨by rw [e, y9 14 0 71 (by first | decide | omega) (by first | decide | omega)]; exact hW.1, by rw [e]; exact hW.2.1, fun j j0 j1 => ?_⟩
          rw [e] at j1
          rw [y8 0 1 0 j (by first | decide | omega) (by first | decide | omega), y10 14 0 70 j (by first | decide | omega) (by first | decide | omega)]; exact hW.2.2 j j0 j1
        · exact IOp_g hO (kc 8 (by decide)) (y7 12 0 8 (by first | decide | omega) (by first | decide | omega) (by first | decide | omega)) (y7 12 0 9 (by first | decide | omega) (by first | decide | omega) (by first | decide | omega)) (fun o k ho => y7 8 o k ho (by first | decide | omega) (by first | decide | omega)) (fun o k x ho => y8 8 o k x ho (by first | decide | omega)) (y9 14 0 72 (by first | decide | omega) (by first | decide | omega)) (fun k x hk => y10 14 0 k x (by first | decide | omega) (by first | decide | omega))
        · rw [y7 7 0 4 (by first | decide | omega) (by first | decide | omega) (by first | decide | omega)]; exact h7
        · intro y y0 y1
          rw [y8 12 0 1 y (by first | decide | omega) (by first | decide | omega), y10 14 0 4 y (by first | decide | omega) (by first | decide | omega)]; exact hX y y0 y1
    rcases (show a1 = 0 ∨ a1 = 1 by omega) with e | e
    · exact go p0 w0 (by rw [e]; exact n2) (by rw [e]; exact n5) hWw.2.1 (Or.inl ⟨rfl, rfl⟩) (SLD_of s0 hE.2.2.2.1)
    · exact go p1 w1 (by rw [e]; exact n3) (by rw [e]; exact n6) hWw.2.2.1 (Or.inr ⟨rfl, rfl⟩) (SLD_of s1 hE.2.2.2.2.1)
end
end
section
section
variable {cc : Int}
/-! ===== the call of read keeps the invariant ===== -/
theorem IE_new {K : zK} {Km : Nat} {p p0 p1 w w0 w1 : Int} {F : zF} {B : zB} {Fm : zF} {Bm : zB} (h : IE cc K Km p p0 p1 w w0 w1 F B Fm Bm) (hp : p < 0) : IE cc (K.1, zinN K.2 6) Km (K.2 6) p0 p1 w w0 w1 (zup3 (zinF F 6 (K.2 6) [0, 0, 0, 0, 0, 0, 0, 0, (-1), (-1), 0, 0, (-1), 0]) 12 0 7 (K.2 6)) (zinB B 6 (K.2 6) (fun k _ => if k = 0 then -1 else 0)) Fm Bm := by
  have hI := IC_new h.1 hp
  obtain ⟨hC, t61, hS, e0, e1, hU, l0, l1⟩ := h
  have hQ := hC.2.2.2.2.2.2.1
  have g6 : 0 ≤ K.2 6 := (hC.2.2.1.1.1 6 (by decide)).1
  have k6' : zinN K.2 6 6 = K.2 6 + 1 := by rw [zinN_v, if_pos rfl]
  have k5' : zinN K.2 6 5 = K.2 5 := by rw [zinN_v, if_neg (by decide)]
  generalize hF1 : zup3 (zinF F 6 (K.2 6) [0, 0, 0, 0, 0, 0, 0, 0, (-1), (-1), 0, 0, (-1), 0]) 12 0 7 (K.2 6) = F1 at hI ⊢
  generalize hB1 : zinB B 6 (K.2 6) (fun k _ => if k = 0 then -1 else 0) = B1 at hI ⊢
  have fn : ∀ c y k, ¬ (c = 6 ∧ y = K.2 6) → ¬ (c = 12 ∧ y = 0 ∧ k = 7) → F1 c y k = F c y k := fun c y k a b => by rw [← hF1, zup3_v, if_neg b, zinF_v, if_neg a]
  have bn : ∀ c y k x, ¬ (c = 6 ∧ y = K.2 6) → B1 c y k x = B c y k x := fun c y k x a => by rw [← hB1, zinB_v, if_neg a]
  have nw : ∀ k, k = 8 ∨ k = 9 ∨ k = 12 → F1 6 (K.2 6) k = -1 := fun k hk => by
    rw [← hF1, zup3_v, if_neg (by first | decide | omega), zinF_v, if_pos ⟨rfl, rfl⟩]
    rcases hk with rfl | rfl | rfl <;> rfl
  have sd : ∀ y u, y < K.2 6 → SDk K y u F B Fm Bm → SDk (K.1, zinN K.2 6) y u F1 B1 Fm Bm := fun y u hy s y0 => by
    rw [fn 6 y 1 (by first | decide | omega) (by first | decide | omega)]
    exact PD_e (s y0) (by show K.2 5 ≤ zinN K.2 6 5; omega) (fun k _ _ => fn 6 y k (by first | decide | omega) (by first | decide | omega)) (fun _ => by funext k; exact fn 5 _ k (by first | decide | omega) (by first | decide | omega)) (fun _ => by funext k x; exact bn 5 _ k x (by first | decide | omega)) (fun _ => rfl) (fun _ _ => rfl)
  have hln : ∀ y u, SL K y u F B Fm Bm → LNk y u F B Fm Bm → LNk y u F1 B1 Fm Bm := fun y u s l => LNk_e l s (fun _ hy k _ => fn 6 y k (by first | decide | omega) (by first | decide | omega)) (fun _ hy v => bn 6 y 0 v (by first | decide | omega)) (fun q k _ _ _ _ _ => ⟨fn 4 q k (by first | decide | omega) (by first | decide | omega), fun x => bn 4 q k x (by first | decide | omega)⟩) (fun c j hc _ _ _ k => ⟨fn c _ k (by first | decide | omega) (by first | decide | omega), fun x => bn c _ k x (by first | decide | omega)⟩) (fun _ _ => rfl) (fun _ _ _ => rfl)
  refine ⟨hI, t61, ⟨fun y y0 y1 z => ?_, fun k hk y y' y0 y1 z0 z1 n => ?_⟩, sd p0 w0 hQ.1.2.1 e0, sd p1 w1 hQ.1.2.2 e1, ?_, hln p0 w0 hC.2.2.2.2.2.2.2.2.2.1 l0, hln p1 w1 hC.2.2.2.2.2.2.2.2.2.2 l1⟩
  · have y1 : y < zinN K.2 6 6 := y1
    by_cases e : y = K.2 6
    · rw [e, nw 9 (by first | decide | omega)] at z; omega
    · rw [fn 6 y 9 (by first | decide | omega) (by first | decide | omega)] at z ⊢
      have := hS.1 y y0 (by first | decide | omega) z
      unfold rwS at *
      rw [fn 5 _ 8 (by first | decide | omega) (by first | decide | omega), fn 5 _ 9 (by first | decide | omega) (by first | decide | omega)]; exact this
  · have y1 : y < zinN K.2 6 6 := y1
    have z1 : y' < zinN K.2 6 6 := z1
    by_cases e : y = K.2 6
    · rw [e, nw k hk]; omega
    · rw [fn 6 y k (by first | decide | omega) (by first | decide | omega)]
      by_cases e' : y' = K.2 6
      · rw [e', nw k hk]; omega
      · rw [fn 6 y' k (by first | decide | omega) (by first | decide | omega)]
        exact hS.2 k hk y y' y0 (by first | decide | omega) z0 (by first | decide | omega) n
  · have u0 := hU
    obtain ⟨c0, _, hU5, _, _, hUm, _⟩ := u0
    have k2' : zinN K.2 6 2 = K.2 2 := by rw [zinN_v, if_neg (by decide)]
    have k9' : zinN K.2 6 9 = K.2 9 := by rw [zinN_v, if_neg (by decide)]
    have g6' := hC.2.2.2.2.2.2.2.1.1
    have k62 : K.2 6 ≤ 2 := by
      have s1 : slN p = 1 := by unfold slN; rw [if_pos hp]
      have s2 : 0 ≤ slN p0 := by unfold slN; split <;> omega
      have s3 : 0 ≤ slN p1 := by unfold slN; split <;> omega
      omega
    have kn : IKn (K.1, zinN K.2 6) F1 := by
      have o := c0.2
      unfold IKn at *
      rw [ngk_n (k := 8) (K := K) (K' := (K.1, zinN K.2 6)) (F := F) (F' := F1) g6 k62 k6' (by rw [nw 8 (by first | decide | omega)]; decide) (fun y y0 y1 => fn 6 y 8 (by first | decide | omega) (by first | decide | omega)), ngk_n (k := 9) (K := K) (K' := (K.1, zinN K.2 6)) (F := F) (F' := F1) g6 k62 k6' (by rw [nw 9 (by first | decide | omega)]; decide) (fun y y0 y1 => fn 6 y 9 (by first | decide | omega) (by first | decide | omega)), ngk_n (k := 12) (K := K) (K' := (K.1, zinN K.2 6)) (F := F) (F' := F1) g6 k62 k6' (by rw [nw 12 (by first | decide | omega)]; decide) (fun y y0 y1 => fn 6 y 12 (by first | decide | omega) (by first | decide | omega))]
      show zinN K.2 6 6 ≤ 3 ∧ zinN K.2 6 2 + (ngk 8 K F + 1) ≤ zinN K.2 6 6 ∧ zinN K.2 6 5 + (ngk 9 K F + 1) ≤ zinN K.2 6 6 ∧ zinN K.2 6 9 + (ngk 12 K F + 1) ≤ zinN K.2 6 6
      rw [k6', k2', k5', k9']
      omega
    refine IU_f hU kn k2' k9' (fun l _ _ => ⟨Or.inl (fn 2 l 0 (by first | decide | omega) (by first | decide | omega)), fn 2 l 4 (by first | decide | omega) (by first | decide | omega), fun k x => bn 2 l k x (by first | decide | omega)⟩) (fun s s0 s1 => PXu_e (hU5 s s0 (by rw [← k5']; exact s1)) (fun k _ => fn 5 s k (by first | decide | omega) (by first | decide | omega))) (fun t _ _ => ⟨fun k => fn 9 t k (by first | decide | omega) (by first | decide | omega), fun k x => bn 9 t k x (by first | decide | omega)⟩) (fun y y0 y1 => ?_) hUm (fun _ _ _ => rfl)
    have y1 : y < zinN K.2 6 6 := y1
    by_cases e : y = K.2 6
    · refine Or.inl ?_
      rw [e, ← hF1, zup3_v, if_neg (by first | decide | omega), zinF_v, if_pos ⟨rfl, rfl⟩]
      rfl
    · exact Or.inr ⟨(by first | decide | omega), fn 6 y 13 (by first | decide | omega) (by first | decide | omega), fn 6 y 12 (by first | decide | omega) (by first | decide | omega)⟩
theorem IE_ph {K K' : zK} {Km : Nat} {p p0 p1 w w0 w1 : Int} {F F' : zF} {B B' : zB} {Fm Fm' : zF} {Bm Bm' : zB} (h : IE cc K Km p p0 p1 w w0 w1 F B Fm Bm) (hp : 0 ≤ p) (ph : PhF K K' p w F B Fm Bm F' B' Fm' Bm') (f13 : F' 6 p 13 = 0) (f20 : 0 ≤ F 6 p 8 → F' 2 (F 6 p 8) 0 = 0) : T61 Bm' ∧ IS K' F' ∧ SDk K' p0 w0 F' B' Fm' Bm' ∧ SDk K' p1 w1 F' B' Fm' Bm' ∧ IU cc K' F' B' Fm' Bm' ∧ LNk p0 w0 F' B' Fm' Bm' ∧ LNk p1 w1 F' B' Fm' Bm' := by
  obtain ⟨hC, t61, hS, e0, e1, hU, l0, l1⟩ := h
  obtain ⟨⟨k1, k2, k3, k4, k5⟩, fF, fB, fS, fM, fN, g1, g2, g3⟩ := ph
  have hW := hC.2.2.2.2.2.1
  have hQ := hC.2.2.2.2.2.2.1
  have hF := hC.2.2.2.2.2.2.2.2.1
  have q6 := k3 6 (by decide)
  have q5 := k3 5 (by decide)
  have f6 : ∀ y k, y < K.2 6 → ¬ (y = p ∧ (1 ≤ k ∧ k ≤ 7 ∨ k = 10 ∨ k = 11 ∨ k = 13)) → F' 6 y k = F 6 y k := fun y k hy n => fF 6 y k hy (by first | decide | omega) (by first | decide | omega) (by first | decide | omega) (by first | decide | omega) (by first | decide | omega) (by first | decide | omega) (by first | decide | omega) (by first | decide | omega)
  have f5 : ∀ y k, y < K.2 5 → F' 5 y k = F 5 y k := fun y k hy => fF 5 y k hy (by first | decide | omega) (by first | decide | omega) (by first | decide | omega) (by first | decide | omega) (by first | decide | omega) (by first | decide | omega) (by first | decide | omega) (by first | decide | omega)
  have b5 : ∀ y k x, y < K.2 5 → B' 5 y k x = B 5 y k x := fun y k x hy => fB 5 y k x hy (by first | decide | omega) (by first | decide | omega) (by first | decide | omega) (by first | decide | omega) (by first | decide | omega) (by first | decide | omega)
  have sd : ∀ y u, y < K.2 6 → (0 ≤ y → ¬ y = p) → ¬ u = w → SDk K y u F B Fm Bm → SDk K' y u F' B' Fm' Bm' := fun y u hy n hu s y0 => by
    have np := n y0
    have l := (hF y y0 hy).2.1
    rw [f6 y 1 hy (by first | decide | omega)]
    exact PD_e (s y0) (by first | decide | omega) (fun k _ _ => f6 y k hy (by first | decide | omega)) (fun _ => by funext k; exact f5 _ k l) (fun _ => by funext k x; exact b5 _ k x l) (fun k => fM 13 u k (by first | decide | omega) (by first | decide | omega)) (fun k x => fN 13 u k x (by first | decide | omega) (by first | decide | omega))
  have d1 := hC.2.2.1.1
  have q1 := hQ.1.1
  have hln : ∀ y u, (0 ≤ y → ¬ y = p) → ¬ u = w → SL K y u F B Fm Bm → LNk y u F B Fm Bm → LNk y u F' B' Fm' Bm' := fun y u n hu s l => by
    by_cases y0 : 0 ≤ y
    · have hy := n y0
      refine LNk_e l s (fun _ y1 k hk => f6 y k y1 (by first | decide | omega)) (fun _ y1 v => fB 6 y 0 v y1 (by first | decide | omega) (by first | decide | omega) (by first | decide | omega) (by first | decide | omega) (by first | decide | omega) (by first | decide | omega)) (fun q k a b e _ y1 => ?_) (fun c j hc _ y1 z k => ?_) (fun k hk => fM 13 u k (by first | decide | omega) (by first | decide | omega)) (fun k x hk => fN 13 u k x (by first | decide | omega) (by first | decide | omega))
      · have np : ¬ ∃ u, 0 ≤ u ∧ u < 4 ∧ q = B 6 p 0 u := fun ⟨u', u0', u1', e'⟩ => by
          obtain ⟨u, u0, u1, e⟩ := e
          exact hy (d1.2.2.1 y u p u' y0 y1 u0 u1 hp q1 u0' u1' (by first | decide | omega) (by first | decide | omega)).1
        exact ⟨fF 4 q k b (by first | decide | omega) (by first | decide | omega) (by first | decide | omega) (by first | decide | omega) (by first | decide | omega) (by first | decide | omega) (fun z => np z.2) (by first | decide | omega), fun x => fB 4 q k x b (by first | decide | omega) (by first | decide | omega) (by first | decide | omega) (by first | decide | omega) (fun z => np z.2.2) (by first | decide | omega)⟩
      · have o := hF y y0 y1
        rcases hc with ⟨rfl, rfl⟩ | ⟨rfl, rfl⟩
        · have nd := hS.2 8 (by first | decide | omega) y p y0 y1 hp q1 hy z
          exact ⟨fF 2 _ k o.1 (by first | decide | omega) (by first | decide | omega) (by first | decide | omega) (by first | decide | omega) (by first | decide | omega) (by first | decide | omega) (by first | decide | omega) (by first | decide | omega), fun x => fB 2 _ k x o.1 (by first | decide | omega) (by first | decide | omega) (by first | decide | omega) (by first | decide | omega) (by first | decide | omega) (by first | decide | omega)⟩
        · exact ⟨fF 9 _ k o.2.2 (by first | decide | omega) (by first | decide | omega) (by first | decide | omega) (by first | decide | omega) (by first | decide | omega) (by first | decide | omega) (by first | decide | omega) (by first | decide | omega), fun x => fB 9 _ k x o.2.2 (by first | decide | omega) (by first | decide | omega) (by first | decide | omega) (by first | decide | omega) (by first | decide | omega) (by first | decide | omega)⟩
    · exact fun h => absurd h y0
  refine ⟨fun l l0 l1 => by rw [fN 14 0 61 l (by first | decide | omega) (by first | decide | omega)]; exact t61 l l0 l1, ⟨fun y y0 y1 z => ?_, fun k hk y y' y0 y1 z0 z1 n => ?_⟩, sd p0 w0 hQ.1.2.1 (fun _ => (hQ.2.1 hp).1) hW.2.2.2.1 e0, sd p1 w1 hQ.1.2.2 (fun _ => (hQ.2.1 hp).2) hW.2.2.2.2.1 e1, ?_, hln p0 w0 (fun _ => (hQ.2.1 hp).1) hW.2.2.2.1 hC.2.2.2.2.2.2.2.2.2.1 l0, hln p1 w1 (fun _ => (hQ.2.1 hp).2) hW.2.2.2.2.1 hC.2.2.2.2.2.2.2.2.2.2 l1⟩
  · rw [f6 y 9 (by first | decide | omega) (by first | decide | omega)] at z ⊢
    have l := (hF y y0 (by first | decide | omega)).2.1
    have := hS.1 y y0 (by first | decide | omega) z
    unfold rwS at *
    rw [f5 _ 8 l, f5 _ 9 l]; exact this
  · rw [f6 y k (by first | decide | omega) (by first | decide | omega), f6 y' k (by first | decide | omega) (by first | decide | omega)]
    exact hS.2 k hk y y' y0 (by first | decide | omega) z0 (by first | decide | omega) n
  · have u0 := hU
    obtain ⟨c0, _, hU5, _, _, hUm, _⟩ := u0
    refine IU_f hU (IKn_f c0.2 (k3 2 (by decide)) q5 q6 (k3 9 (by decide)) (fun y k y0 y1 hk => f6 y k y1 (by first | decide | omega))) (k3 2 (by decide)) (k3 9 (by decide)) (fun l l0 hl => ⟨?_, fF 2 l 4 hl (by first | decide | omega) (by first | decide | omega) (by first | decide | omega) (by first | decide | omega) (by first | decide | omega) (by first | decide | omega) (by first | decide | omega) (by first | decide | omega), fun k x => fB 2 l k x hl (by first | decide | omega) (by first | decide | omega) (by first | decide | omega) (by first | decide | omega) (by first | decide | omega) (by first | decide | omega)⟩) (fun s s0 s1 => PXu_e (hU5 s s0 (by rw [← q5]; exact s1)) (fun k _ => f5 s k (by rw [← q5]; exact s1))) (fun t _ ht => ⟨fun k => fF 9 t k ht (by first | decide | omega) (by first | decide | omega) (by first | decide | omega) (by first | decide | omega) (by first | decide | omega) (by first | decide | omega) (by first | decide | omega) (by first | decide | omega), fun k x => fB 9 t k x ht (by first | decide | omega) (by first | decide | omega) (by first | decide | omega) (by first | decide | omega) (by first | decide | omega) (by first | decide | omega)⟩) (fun y y0 y1 => ?_) (fun i i0 i1 z => ?_) (fun k x hk => fN 14 0 k x (by first | decide | omega) (by first | decide | omega))
    · by_cases e : l = F 6 p 8
      · rw [e]; exact Or.inr (f20 (by first | decide | omega))
      · exact Or.inl (fF 2 l 0 hl (by first | decide | omega) (by first | decide | omega) (by first | decide | omega) (by first | decide | omega) (by first | decide | omega) (by first | decide | omega) (by first | decide | omega) (by first | decide | omega))
    · by_cases e : y = p
      · rw [e]; exact Or.inl f13
      · exact Or.inr ⟨(by first | decide | omega), f6 y 13 (by first | decide | omega) (by first | decide | omega), f6 y 12 (by first | decide | omega) (by first | decide | omega)⟩
    · rw [fM 13 i 53 (by first | decide | omega) (by first | decide | omega)] at z
      exact PMu_e (hUm i i0 i1 z) (fun k k0 k1 => fM 13 i k (by first | decide | omega) (by first | decide | omega))
/-- a read that ends well: the invariant behind the exchange of places -/
theorem IE_sw {K : zK} {V p q q0 q1 v v0 v1 w wl po wo l1 : Int} {Km : Nat} {F F' : zF} {B B' : zB} {Fm Fm' : zF} {Bm Bm' : zB} (hC : IC K Km q q0 q1 v v0 v1 F' B' Fm' Bm') (hn : (q0 = p ∧ v0 = w ∧ q1 = po ∧ v1 = wo) ∨ (q1 = p ∧ v1 = w ∧ q0 = po ∧ v0 = wo)) (hp : 0 ≤ p ∧ p < K.2 6) (hw : ¬ wo = w ∧ ¬ wo = wl) (t61 : T61 Bm) (hU : IU cc K F B Fm Bm) (lo : LNk po wo F B Fm Bm) (sLo : SL K po wo F B Fm Bm) (hS : IS K F) (e9 : F 6 p 9 < K.2 5) (fl : F 6 p 10 = 0 ∧ F 6 p 11 = 0) (f13 : F 6 p 13 = 0) (_f20 : 0 ≤ F 6 p 8 → F 2 (F 6 p 8) 0 = 0) (so : SDk K po wo F B Fm Bm) (f : ∀ c y k, ¬ (c = 12 ∧ y = 0 ∧ k = 7) → F' c y k = F c y k) (b : ∀ c y k x, ¬ (c = 12 ∧ y = 0 ∧ k = 3) → B' c y k x = B c y k x) (rk : RdK K V p w wl l1 F B Fm Bm Fm' Bm') : IE cc K Km q q0 q1 v v0 v1 F' B' Fm' Bm' := by
  obtain ⟨r1, ⟨r2, r3, r3b, r48, r53, _, _, r65, r66⟩, r4, r5, _, r9, _, rN, rX⟩ := rk
  have sp : SDk K p w F' B' Fm' Bm' := fun _ => by
    have e : ∀ k, F' 6 p k = F 6 p k := fun k => f 6 p k (by first | decide | omega)
    unfold PD
    rw [e 10, e 11, e 9, fl.1, fl.2]
    refine ⟨Or.inl rfl, Or.inl rfl, e9, fun z => ?_, fun z => absurd z (by decide), fun z => absurd z (by decide), fun _ => r53⟩
    have := hS.1 p hp.1 hp.2 z
    unfold rwS at *
    rw [f 5 _ 8 (by first | decide | omega), f 5 _ 9 (by first | decide | omega)]; exact this
  have so' : SDk K po wo F' B' Fm' Bm' := fun y0 => by
    rw [f 6 po 1 (by first | decide | omega)]
    exact PD_e (so y0) (Int.le_refl _) (fun k _ _ => f 6 po k (by first | decide | omega)) (fun _ => by funext k; exact f 5 _ k (by first | decide | omega)) (fun _ => by funext k x; exact b 5 _ k x (by first | decide | omega)) (fun k => r1 13 wo k (by first | decide | omega) (by first | decide | omega) (by first | decide | omega)) (fun k x => r4 13 wo k x (by first | decide | omega) (by first | decide | omega) (by first | decide | omega))
  refine ⟨hC, fun l l0 l1 => by rw [r4 14 0 61 l (by first | decide | omega) (by first | decide | omega) (by first | decide | omega)]; exact t61 l l0 l1, ⟨fun y y0 y1 z => ?_, fun k hk y y' y0 y1 z0 z1 n => ?_⟩, ?_⟩
  · rw [f 6 y 9 (by first | decide | omega)] at z ⊢
    have := hS.1 y y0 y1 z
    unfold rwS at *
    rw [f 5 _ 8 (by first | decide | omega), f 5 _ 9 (by first | decide | omega)]; exact this
  · rw [f 6 y k (by first | decide | omega), f 6 y' k (by first | decide | omega)]
    exact hS.2 k hk y y' y0 y1 z0 z1 n
  · have lp' : LNk p w F' B' Fm' Bm' := fun _ => ⟨Or.inl r48, by
      rw [f 6 p 1 (by first | decide | omega), r9.1.2.2.2.1]
      exact NAl_e rN (fun u _ _ => b 6 p 0 u (by first | decide | omega)) (fun u _ _ => f 4 _ 10 (by first | decide | omega)) (fun u _ _ k x => b 4 _ k x (by first | decide | omega)) (fun _ _ _ _ => rfl), by
      rw [f 6 p 1 (by first | decide | omega), r9.1.2.2.2.1]
      obtain ⟨S, sg, mx⟩ := rX
      exact ⟨S, sg, mx, fun z => by rw [f 6 p 13 (by first | decide | omega), f13] at z; exact absurd z (by decide)⟩, Or.inl ⟨r48, fun z => by
      rw [f 6 p 8 (by first | decide | omega)] at z ⊢
      rw [f 2 _ 0 (by first | decide | omega)]
      exact _f20 z⟩⟩
    have lo' : LNk po wo F' B' Fm' Bm' := LNk_e lo sLo (fun _ _ k _ => f 6 po k (by first | decide | omega)) (fun _ _ v => b 6 po 0 v (by first | decide | omega)) (fun q k _ _ _ _ _ => ⟨f 4 q k (by first | decide | omega), fun x => b 4 q k x (by first | decide | omega)⟩) (fun c j hc _ _ _ k => ⟨f c _ k (by first | decide | omega), fun x => b c _ k x (by first | decide | omega)⟩) (fun k hk => r1 13 wo k (by first | decide | omega) (by first | decide | omega) (by first | decide | omega)) (fun k x hk => r4 13 wo k x (by first | decide | omega) (by first | decide | omega) (by first | decide | omega))
    have hU' : IU cc K F' B' Fm' Bm' := by
      have u0 := hU
      obtain ⟨c0, _, hU5, _, _, hUm, _⟩ := u0
      refine IU_f hU (IKn_f c0.2 rfl rfl rfl rfl (fun y k _ _ _ => f 6 y k (by first | decide | omega))) rfl rfl (fun l _ _ => ⟨Or.inl (f 2 l 0 (by first | decide | omega)), f 2 l 4 (by first | decide | omega), fun k x => b 2 l k x (by first | decide | omega)⟩) (fun s s0 s1 => PXu_e (hU5 s s0 s1) (fun k _ => f 5 s k (by first | decide | omega))) (fun t _ _ => ⟨fun k => f 9 t k (by first | decide | omega), fun k x => b 9 t k x (by first | decide | omega)⟩) (fun y _ y1 => Or.inr ⟨y1, f 6 y 13 (by first | decide | omega), f 6 y 12 (by first | decide | omega)⟩) (fun i i0 i1 z => ?_) (fun k x hk => r4 14 0 k x (by first | decide | omega) (by first | decide | omega) (by first | decide | omega))
      by_cases e : i = w
      · rw [e] at z; exact absurd r53 z
      · rw [r1 13 i 53 (by first | decide | omega) (by first | decide | omega) (by first | decide | omega)] at z
        exact PMu_e (hUm i i0 i1 z) (fun k k0 k1 => r1 13 i k (by first | decide | omega) (by first | decide | omega) (by first | decide | omega))
    rcases hn with ⟨rfl, rfl, rfl, rfl⟩ | ⟨rfl, rfl, rfl, rfl⟩
    · exact ⟨sp, so', hU', lp', lo'⟩
    · exact ⟨so', sp, hU', lo', lp'⟩
/-- what stands beside the pieces -/
def IZ (K : zK) (F : zF) (B : zB) (Fm : zF) (Bm : zB) : Prop := WI F B Fm Bm ∧ IOp K F B Fm Bm ∧ F 7 0 4 = 0 ∧ IX B Bm ∧ 60000 ≤ K.1
theorem IZ_f {K K' : zK} {F F' : zF} {B B' : zB} {Fm Fm' : zF} {Bm Bm' : zB} (h : IZ K F B Fm Bm) (k1 : K'.1 = K.1) (k8 : K'.2 8 = K.2 8) (f1 : F' 0 1 1 = F 0 1 1) (f8 : F' 12 0 8 = F 12 0 8) (f9 : F' 12 0 9 = F 12 0 9) (f7 : F' 7 0 4 = F 7 0 4) (f : ∀ o k, o < K.2 8 → F' 8 o k = F 8 o k) (b1 : ∀ x, B' 0 1 0 x = B 0 1 0 x) (b12 : ∀ x, B' 12 0 1 x = B 12 0 1 x) (b : ∀ o k x, o < K.2 8 → B' 8 o k x = B 8 o k x) (g : ∀ k, k = 71 ∨ k = 72 → Fm' 14 0 k = Fm 14 0 k) (m : ∀ k x, k = 4 ∨ k = 70 ∨ k = 73 ∨ (75 ≤ k ∧ k ≤ 81) → Bm' 14 0 k x = Bm 14 0 k x) : IZ K' F' B' Fm' Bm' := by
  obtain ⟨h1, h2, h3, h4, h5⟩ := h
  refine ⟨⟨by rw [f1, g 71 (by first | decide | omega)]; exact h1.1, by rw [f1]; exact h1.2.1, fun j j0 j1 => ?_⟩, IOp_g h2 k8 f8 f9 f b (g 72 (by first | decide | omega)) (fun k x hk => m k x (by first | decide | omega)), by rw [f7]; exact h3, fun y y0 y1 => by rw [b12, m 4 y (by first | decide | omega)]; exact h4 y y0 y1, by rw [k1]; exact h5⟩
  rw [f1] at j1
  rw [b1, m 70 j (by first | decide | omega)]; exact h1.2.2 j j0 j1
theorem p_r29 {K : zK} {Km : Nat} {p p0 p1 w w0 w1 l1 : Int} {F : zF} {B : zB} {Fm : zF} {Bm : zB} (hE : IE cc K Km p p0 p1 w w0 w1 F B Fm Bm) (hZ : IZ K F B Fm Bm) (hp : 0 ≤ p) (l0 : 0 ≤ l1 ∧ l1 < 2) : ∃ r K' F' B' Fm' Bm', f_S_read_29 K 0 l1 F B = some (r, F', B', K') ∧ f_M_read Km l1 Fm Bm = some (r, Fm', Bm') ∧ IV cc Km K' F' B' Fm' Bm' := by
  have h := hE.1
  obtain ⟨hR, hT⟩ := IC_IR h
  obtain ⟨r, K', F3, B3, Fm3, Bm3, ph, z, fl, res⟩ := P_rd29 hR hT hp l0
  have hA := hR.1.2.2
  have k0 : 0 < K.2 0 := by omega
  have hR' := IR_ph hR hp ph
  have hT' := IT_ph hT k0 ph z
  obtain ⟨u1, u2, u3, u4, u5, u6, u7⟩ := IE_ph hE hp ph fl.2.2.1 fl.2.2.2
  have ph' := ph
  obtain ⟨⟨k1, k2, k3, k4, k5⟩, fF, fB, fS, fM, fN, _⟩ := ph'
  have hpl : p < K.2 6 := hR.2.2.2.2.2.1.1.1
  have hZ' : IZ K' F3 B3 Fm3 Bm3 := IZ_f hZ k1 (k3 8 (by decide)) (fF 0 1 1 (by first | decide | omega) (by first | decide | omega) (by first | decide | omega) (by first | decide | omega) (by first | decide | omega) (by first | decide | omega) (by first | decide | omega) (by first | decide | omega) (by first | decide | omega)) (fF 12 0 8 (by first | decide | omega) (by first | decide | omega) (by first | decide | omega) (by first | decide | omega) (by first | decide | omega) (by first | decide | omega) (by first | decide | omega) (by first | decide | omega) (by first | decide | omega)) (fF 12 0 9 (by first | decide | omega) (by first | decide | omega) (by first | decide | omega) (by first | decide | omega) (by first | decide | omega) (by first | decide | omega) (by first | decide | omega) (by first | decide | omega) (by first | decide | omega)) (fF 7 0 4 (by first | decide | omega) (by first | decide | omega) (by first | decide | omega) (by first | decide | omega) (by first | decide | omega) (by first | decide | omega) (by first | decide | omega) (by first | decide | omega) (by first | decide | omega)) (fun o k ho => fF 8 o k ho (by first | decide | omega) (by first | decide | omega) (by first | decide | omega) (by first | decide | omega) (by first | decide | omega) (by first | decide | omega) (by first | decide | omega) (by first | decide | omega)) (fun x => fB 0 1 0 x (by first | decide | omega) (by first | decide | omega) (by first | decide | omega) (by first | decide | omega) (by first | decide | omega) (by first | decide | omega) (by first | decide | omega)) (fun x => fB 12 0 1 x (by first | decide | omega) (by first | decide | omega) (by first | decide | omega) (by first | decide | omega) (by first | decide | omega) (by first | decide | omega) (by first | decide | omega)) (fun o k x ho => fB 8 o k x ho (by first | decide | omega) (by first | decide | omega) (by first | decide | omega) (by first | decide | omega) (by first | decide | omega) (by first | decide | omega)) (fun k hk => fM 14 0 k (by first | decide | omega) (by first | decide | omega)) (fun k x hk => fN 14 0 k x (by first | decide | omega) (by first | decide | omega))
  rcases res with ⟨rz, c, m⟩ | ⟨rfl, c, V, Fm', Bm', m, rk⟩
  · exact ⟨r, K', F3, B3, Fm3, Bm3, c, m, p, p0, p1, w, w0, w1, ⟨IR_IC hR' hT', u1, u2, u3, u4, u5, u6, u7⟩, hZ'⟩
  · have hT2 : IT (zup3 F3 12 0 7 (B3 12 0 3 l1)) (zup4 B3 12 0 3 l1 p) Fm' Bm' := by
      obtain ⟨t1, t2, t3, t4, t5⟩ := hT'
      have e : (zup4 B3 12 0 3 l1 p) 0 0 0 = B3 0 0 0 := by funext x; rw [zup4_v, if_neg (by first | decide | omega)]
      unfold IT
      rw [e, zup3_v, if_neg (by first | decide | omega), rk.1 14 0 3 (by first | decide | omega) (by first | decide | omega) (by first | decide | omega)]
      refine ⟨t1, t2, t3, t4, ?_⟩
      rw [← t5]
      unfold tmB
      funext y
      rw [rk.2.2.1 14 0 2 y (by first | decide | omega) (by first | decide | omega) (by first | decide | omega)]
    have n5 : Bm 14 0 5 0 = w0 ∧ Bm 14 0 5 1 = w1 := ⟨hR.2.2.2.1.2.2.2.2.1, hR.2.2.2.1.2.2.2.2.2⟩
    have nn := hR'.2.2.2.1
    have hW := hR'.2.2.2.2.1
    have hQ := hR'.2.2.2.2.2.1
    have hG := hR'.2.2.2.2.2.2.1
    have hF3 := hR'.2.2.2.2.2.2.2.1
    have hZ2 : ∀ pl, IZ K' (zup3 F3 12 0 7 pl) (zup4 B3 12 0 3 l1 p) Fm' Bm' := fun pl => IZ_f hZ' rfl rfl (by rw [zup3_v, if_neg (by first | decide | omega)]) (by rw [zup3_v, if_neg (by first | decide | omega)]) (by rw [zup3_v, if_neg (by first | decide | omega)]) (by rw [zup3_v, if_neg (by first | decide | omega)]) (fun o k _ => by rw [zup3_v, if_neg (by first | decide | omega)]) (fun x => by rw [zup4_v, if_neg (by first | decide | omega)]) (fun x => by rw [zup4_v, if_neg (by first | decide | omega)]) (fun o k x _ => by rw [zup4_v, if_neg (by first | decide | omega)]) (fun k hk => rk.1 14 0 k (by first | decide | omega) (by first | decide | omega) (by first | decide | omega)) (fun k x hk => rk.2.2.1 14 0 k x (by first | decide | omega) (by first | decide | omega) (by first | decide | omega))
    have pb : 0 ≤ p ∧ p < K'.2 6 := ⟨hp, hQ.1.1⟩
    have f20' : 0 ≤ F3 6 p 8 → F3 2 (F3 6 p 8) 0 = 0 := fun z8 => by
      have e8 : F3 6 p 8 = F 6 p 8 := fF 6 p 8 hpl (by first | decide | omega) (by first | decide | omega) (by first | decide | omega) (by first | decide | omega) (by first | decide | omega) (by first | decide | omega) (by first | decide | omega) (by first | decide | omega)
      rw [e8] at z8 ⊢
      exact fl.2.2.2 z8
    have fz : ∀ pl c y k, ¬ (c = 12 ∧ y = 0 ∧ k = 7) → (zup3 F3 12 0 7 pl) c y k = F3 c y k := fun pl c y k n => by rw [zup3_v, if_neg n]
    have bz : ∀ c y k x, ¬ (c = 12 ∧ y = 0 ∧ k = 3) → (zup4 B3 12 0 3 l1 p) c y k x = B3 c y k x := fun c y k x n => by rw [zup4_v, if_neg (by first | decide | omega)]
    have : l1 = 0 ∨ l1 = 1 := by omega
    rcases this with rfl | rfl
    · rw [n5.1] at rk
      rw [nn.2.1] at c hT2
      obtain ⟨s1, s2, s3, ⟨m1, m2, m3, m4, m5, m6⟩, s5, s6, s7, s8⟩ := IR_sw (l1 := 0) (lo := 1) (pl := p0) (po := p1) (wl := w0) (wo := w1) hR' hp (Or.inl ⟨rfl, rfl, rfl, rfl, rfl, rfl⟩) rk
      have hC2 : IC K' Km p0 p p1 w0 w w1 (zup3 F3 12 0 7 p0) (zup4 B3 12 0 3 0 p) Fm' Bm' := ⟨s1, s2, s3, hT2, ⟨m1, m2, m3, m4, m5, m6⟩, by unfold IW at *; omega, by unfold IQp at *; omega, by unfold IG at *; rw [s6, s6, s6]; omega, s5, s7, s8⟩
      exact ⟨0, K', _, _, Fm', Bm', c, m, p0, p, p1, w0, w, w1, IE_sw (po := p1) (wo := w1) hC2 (Or.inl ⟨rfl, rfl, rfl, rfl⟩) pb (by unfold IW at hW; omega) u1 u5 u7 hR'.2.2.2.2.2.2.2.2.2 u2 (hF3 p hp pb.2).2.1 ⟨fl.1, fl.2.1⟩ fl.2.2.1 f20' u4 (fz p0) bz rk, hZ2 p0⟩
    · rw [n5.2] at rk
      rw [nn.2.2.1] at c hT2
      obtain ⟨s1, s2, s3, ⟨m1, m2, m3, m4, m5, m6⟩, s5, s6, s7, s8⟩ := IR_sw (l1 := 1) (lo := 0) (pl := p1) (po := p0) (wl := w1) (wo := w0) hR' hp (Or.inr ⟨rfl, rfl, rfl, rfl, rfl, rfl⟩) rk
      have hC2 : IC K' Km p1 p0 p w1 w0 w (zup3 F3 12 0 7 p1) (zup4 B3 12 0 3 1 p) Fm' Bm' := ⟨s1, s2, s3, hT2, ⟨m1, m3, m2, m4, m6, m5⟩, by unfold IW at *; omega, by unfold IQp at *; omega, by unfold IG at *; rw [s6, s6, s6]; omega, s5, s8, s7⟩
      exact ⟨0, K', _, _, Fm', Bm', c, m, p1, p0, p, w1, w0, w, IE_sw (po := p0) (wo := w0) hC2 (Or.inr ⟨rfl, rfl, rfl, rfl⟩) pb (by unfold IW at hW; omega) u1 u5 u6 hR'.2.2.2.2.2.2.2.2.1 u2 (hF3 p hp pb.2).2.1 ⟨fl.1, fl.2.1⟩ fl.2.2.1 f20' u3 (fz p1) bz rk, hZ2 p1⟩
theorem p_read {Km : Nat} (l1 : Int) (rl : r32 l1) {K : zK} {F Fm : zF} {B Bm : zB} (hV : IV cc Km K F B Fm Bm) : ∃ r1 F1 B1 K1 r2 F2 B2, f_S_read K 0 l1 F B = some (r1, F1, B1, K1) ∧ f_M_read Km l1 Fm Bm = some (r2, F2, B2) ∧ IV cc Km K1 F1 B1 F2 B2 := by
  have hV' := hV
  obtain ⟨p, p0, p1, w, w0, w1, hE, hZ⟩ := hV
  have hZ : IZ K F B Fm Bm := hZ
  have h := hE.1
  by_cases l0 : 0 ≤ l1 ∧ l1 < 2
  · have hA := h.1.2.2
    have n1 := h.2.2.2.2.1.1
    have k12 : 0 ≤ (0 : Int) ∧ (0 : Int) < K.2 12 := ⟨Int.le_refl _, hA.2.2.2.2.2.2.2.2.2⟩
    have g6 : 0 ≤ K.2 6 := (h.2.2.1.1.1 6 (by decide)).1
    have g4 : 0 ≤ K.2 4 := (h.2.2.1.1.1 4 (by decide)).1
    by_cases hp : p < 0
    · have hN := IE_new hE hp
      have hZn : IZ (K.1, zinN K.2 6) (zup3 (zinF F 6 (K.2 6) [0, 0, 0, 0, 0, 0, 0, 0, (-1), (-1), 0, 0, (-1), 0]) 12 0 7 (K.2 6)) (zinB B 6 (K.2 6) (fun k _ => if k = 0 then -1 else 0)) Fm Bm := by
        have fn : ∀ c y k, ¬ c = 6 → ¬ (c = 12 ∧ y = 0 ∧ k = 7) → (zup3 (zinF F 6 (K.2 6) [0, 0, 0, 0, 0, 0, 0, 0, (-1), (-1), 0, 0, (-1), 0]) 12 0 7 (K.2 6)) c y k = F c y k := fun c y k a b => by rw [zup3_v, if_neg b, zinF_v, if_neg (fun q => a q.1)]
        have bn : ∀ c y k x, ¬ c = 6 → (zinB B 6 (K.2 6) (fun k _ => if k = 0 then -1 else 0)) c y k x = B c y k x := fun c y k x a => by rw [zinB_v, if_neg (fun q => a q.1)]
        exact IZ_f hZ rfl (by show zinN K.2 6 8 = K.2 8; rw [zinN_v, if_neg (by decide)]) (fn 0 1 1 (by first | decide | omega) (by first | decide | omega)) (fn 12 0 8 (by first | decide | omega) (by first | decide | omega)) (fn 12 0 9 (by first | decide | omega) (by first | decide | omega)) (fn 7 0 4 (by first | decide | omega) (by first | decide | omega)) (fun o k _ => fn 8 o k (by first | decide | omega) (by first | decide | omega)) (fun x => bn 0 1 0 x (by first | decide | omega)) (fun x => bn 12 0 1 x (by first | decide | omega)) (fun o k x _ => bn 8 o k x (by first | decide | omega)) (fun _ _ => rfl) (fun _ _ _ => rfl)
      obtain ⟨r, K', F', B', Fm', Bm', c, m, hI⟩ := p_r29 (l1 := l1) hN hZn g6 l0
      refine ⟨r, F', B', K', r, Fm', Bm', ?_, m, hI⟩
      have k6' : zinN K.2 6 6 = K.2 6 + 1 := by rw [zinN_v, if_pos rfl]
      have k12' : zinN K.2 6 12 = K.2 12 := by rw [zinN_v, if_neg (by decide)]
      unfold f_S_read f_Piece_init f_S_read_26
      rw [if_pos rl, if_neg (by first | decide | omega), if_pos l0.2, if_pos k12, n1, if_pos hp, if_pos g6, if_pos (by first | decide | omega), if_pos (by first | decide | omega), if_pos (by first | decide | omega), if_pos (by first | decide | omega)]
      simp only [zbM_s]
      rw [if_pos (show 0 ≤ K.2 6 ∧ K.2 6 < zinN K.2 6 6 by omega), if_pos (show 0 ≤ (0 : Int) ∧ (0 : Int) < zinN K.2 6 12 by omega), if_pos (show 0 ≤ (0 : Int) ∧ (0 : Int) < zinN K.2 6 12 by omega), if_pos (show K.2 6 < zinN K.2 6 6 by omega)]
      exact c
    · obtain ⟨r, K', F', B', Fm', Bm', c, m, hI⟩ := p_r29 (l1 := l1) hE hZ (by first | decide | omega) l0
      refine ⟨r, F', B', K', r, Fm', Bm', ?_, m, hI⟩
      unfold f_S_read
      rw [if_pos rl, if_neg (by first | decide | omega), if_pos l0.2, if_pos k12, n1, if_neg hp]
      exact c
  · refine ⟨-1, F, B, K, -1, Fm, Bm, ?_, ?_, hV'⟩
    · unfold f_S_read f_S_read_9
      rw [if_pos rl]
      by_cases a : l1 < 0
      · rw [if_pos a]
      · rw [if_neg a, if_neg (by first | decide | omega)]
    · unfold f_M_read f_M_read_9
      rw [if_pos rl]
      by_cases a : l1 < 0
      · rw [if_pos a]
      · rw [if_neg a, if_neg (by first | decide | omega)]
end
end
section
section
variable {cc : Int}
/-! ===== calls that only read a kept piece: its place, its voice ===== -/
theorem slot {Km : Nat} {K : zK} {F Fm : zF} {B Bm : zB} (h : IV cc Km K F B Fm Bm) {a1 : Int} (h1 : r32 a1) : ∃ x y, f_S_pieceAt K 0 a1 F B = some (x, F, B) ∧ f_M_piece Km a1 Fm Bm = some (y, Fm, Bm) ∧ ((x < 0 ∧ y = -1) ∨ ((0 ≤ x ∧ x < K.2 6) ∧ (0 ≤ y ∧ y < 3) ∧ ∃ V, PK K V x y F B Fm Bm ∧ MK V y Fm Bm ∧ PD K V x y F B Fm Bm)) := by
  obtain ⟨p, p0, p1, w, w0, w1, hE, hZ⟩ := h
  have hA := hE.1.1
  obtain ⟨n1, n2, n3, n4, n5, n6⟩ := hE.1.2.2.2.2.1
  have hWw := hE.1.2.2.2.2.2.1
  have s0 := hE.1.2.2.2.2.2.2.2.2.2.1
  have s1 := hE.1.2.2.2.2.2.2.2.2.2.2
  have h12 : 0 < K.2 12 := by have := hA.2.2; omega
  by_cases z : a1 < 0 ∨ 2 ≤ a1
  · exact ⟨-1, -1, C_atx h1 z, L_atx h1 z, Or.inl ⟨(by first | decide | omega), rfl⟩⟩
  · have hl : 0 ≤ a1 ∧ a1 < 2 := by omega
    have go : ∀ q v, B 12 0 3 a1 = q → Bm 14 0 5 a1 = v → 0 ≤ v ∧ v < 3 → SLD K q v F B Fm Bm → ∃ x y, f_S_pieceAt K 0 a1 F B = some (x, F, B) ∧ f_M_piece Km a1 Fm Bm = some (y, Fm, Bm) ∧ ((x < 0 ∧ y = -1) ∨ ((0 ≤ x ∧ x < K.2 6) ∧ (0 ≤ y ∧ y < 3) ∧ ∃ V, PK K V x y F B Fm Bm ∧ MK V y Fm Bm ∧ PD K V x y F B Fm Bm)) := fun q v eq ev hv hs => by
      have x1 := C_at (K := K) (F := F) h12 hl eq
      rcases hs with ⟨q0, m0⟩ | ⟨q0, m0, V, hP, hM, hD⟩
      · have x3 := L_at (Km := Km) (F := Fm) hl ev hv (Or.inl m0)
        rw [if_pos m0] at x3
        exact ⟨q, -1, x1, x3, Or.inl ⟨q0, rfl⟩⟩
      · have x3 := L_at (Km := Km) (F := Fm) hl ev hv (Or.inr m0)
        rw [if_neg (by first | decide | omega)] at x3
        exact ⟨q, v, x1, x3, Or.inr ⟨hP.1.1, hv, V, hP, hM, hD⟩⟩
    rcases (show a1 = 0 ∨ a1 = 1 by omega) with e | e
    · exact go p0 w0 (by rw [e]; exact n2) (by rw [e]; exact n5) hWw.2.1 (SLD_of s0 hE.2.2.2.1)
    · exact go p1 w1 (by rw [e]; exact n3) (by rw [e]; exact n6) hWw.2.2.1 (SLD_of s1 hE.2.2.2.2.1)
theorem IV_12 {Km : Nat} {K : zK} {F Fm : zF} {B Bm : zB} (h : IV cc Km K F B Fm Bm) : 0 ≤ (0 : Int) ∧ (0 : Int) < K.2 12 := by
  obtain ⟨p, p0, p1, w, w0, w1, hE, hZ⟩ := h
  have := hE.1.1.2.2
  omega
theorem prt {Km : Nat} {K : zK} {F Fm : zF} {B Bm : zB} (h : IV cc Km K F B Fm Bm) {a1 a2 : Int} (h1 : r32 a1) (h2 : r32 a2) : ∃ x y e, f_S_partAt K 0 a1 a2 F B = some (x, F, B) ∧ f_M_piece Km a1 Fm Bm = some (y, Fm, Bm) ∧ f_M_isVoice Km y a2 Fm Bm = some (e, Fm, Bm) ∧ ((x < 0 ∧ e = 0) ∨ (e = 1 ∧ (0 ≤ x ∧ x < K.2 4) ∧ (0 ≤ y ∧ y < 3) ∧ (0 ≤ a2 ∧ a2 < 4) ∧ ∃ q V, a2 < V ∧ x = B 6 q 0 a2 ∧ PK K V q y F B Fm Bm ∧ MK V y Fm Bm ∧ PD K V q y F B Fm Bm)) := by
  have h12 := IV_12 h
  obtain ⟨x, y, e1, e2, e3⟩ := slot h h1
  unfold f_S_partAt f_S_partAt_22 f_S_partAt_32 f_M_isVoice f_M_isVoice_20 f_M_isVoice_21
  rw [if_pos h12, e1, zb_s]
  rcases e3 with ⟨x0, y0⟩ | ⟨x0, y0, V, hP, hM, hD⟩
  · rw [if_pos x0]
    exact ⟨-1, y, 0, rfl, e2, by rw [if_pos (by first | decide | omega), if_pos (Or.inl rfl)], Or.inl ⟨(by first | decide | omega), rfl⟩⟩
  · have hV := hP.1.2.2
    rw [if_neg (by first | decide | omega), if_pos h2]
    by_cases z : a2 < 0
    · rw [if_pos z]
      exact ⟨-1, y, 0, rfl, e2, by rw [if_neg (by first | decide | omega), if_pos h2, if_pos z, if_pos (Or.inl rfl)], Or.inl ⟨(by first | decide | omega), rfl⟩⟩
    · rw [if_neg z, if_pos x0, hV.2.1, if_pos (by unfold r32; omega)]
      by_cases c : a2 < V
      · rw [if_pos c, if_pos (by first | decide | omega)]
        refine ⟨_, y, 1, rfl, e2, by rw [if_neg (by first | decide | omega), if_pos h2, if_neg z, if_pos y0, hV.2.2, if_pos (by unfold r32; omega), if_neg (by first | decide | omega), if_pos (Or.inr rfl)], Or.inr ⟨rfl, (hP.2.2 a2 (by first | decide | omega) c).1.1, y0, (by first | decide | omega), x, V, c, rfl, hP, hM, hD⟩⟩
      · rw [if_neg c]
        exact ⟨-1, y, 0, rfl, e2, by rw [if_neg (by first | decide | omega), if_pos h2, if_neg z, if_pos y0, hV.2.2, if_pos (by unfold r32; omega), if_pos (by first | decide | omega), if_pos (Or.inl rfl)], Or.inl ⟨(by first | decide | omega), rfl⟩⟩
theorem rd2 {Km : Nat} {K : zK} {F Fm : zF} {B Bm : zB} {x y : zO} (h : IV cc Km K F B Fm Bm) (a : zR x F B) (b : zR y Fm Bm) : ∃ r1 F1 B1 r2 F2 B2, x = some (r1, F1, B1) ∧ y = some (r2, F2, B2) ∧ IV cc Km K F1 B1 F2 B2 := by
  obtain ⟨r, e⟩ := a
  obtain ⟨r', e'⟩ := b
  exact ⟨r, F, B, r', Fm, Bm, e, e', h⟩
theorem p_voice {Km : Nat} (a1 a2 a3 : Int) (h1 : r32 a1) (h2 : r32 a2) (h3 : r32 a3) {K : zK} {F Fm : zF} {B Bm : zB} (h : IV cc Km K F B Fm Bm) : ∃ r1 F1 B1 r2 F2 B2, f_S_voice K 0 a1 a2 a3 F B = some (r1, F1, B1) ∧ f_M_voice Km a1 a2 a3 Fm Bm = some (r2, F2, B2) ∧ IV cc Km K F1 B1 F2 B2 := by
  obtain ⟨x, y, e, e1, e2, e3, e4⟩ := prt h h1 h2
  refine rd2 h ?_ ?_
  · unfold f_S_voice
    rw [if_pos (IV_12 h), e1, zb_s]
    rcases e4 with ⟨x0, _⟩ | ⟨_, x0, _⟩
    · exact zR_i (fun _ => zR_s) (fun a => absurd x0 a)
    · exact zR_i (fun _ => zR_s) (fun _ => zR_g h3 (zR_i (fun _ => zR_g x0 zR_s) (fun _ => zR_i (fun _ => zR_g x0 zR_s) (fun _ => zR_i (fun _ => zR_g x0 zR_s) (fun _ => zR_i (fun _ => zR_g x0 zR_s) (fun _ => zR_s))))))
  · unfold f_M_voice f_M_voice_72
    rw [e2, zb_s, e3, zb_s]
    rcases e4 with ⟨_, e0⟩ | ⟨e0, _, y0, z0, _⟩
    · rw [e0]
      exact zR_g (by decide) (zR_i (fun _ => zR_s) (fun a => absurd rfl a))
    · rw [e0]
      exact zR_g (by decide) (zR_i (fun _ => zR_s) (fun _ => zR_g h3 (zR_i (fun _ => zR_g y0 (zR_g z0 zR_s)) (fun _ => zR_i (fun _ => zR_g y0 (zR_g z0 zR_s)) (fun _ => zR_i (fun _ => zR_g y0 (zR_g z0 zR_s)) (fun _ => zR_i (fun _ => zR_g y0 (zR_g z0 zR_s)) (fun _ => zR_s)))))))
theorem p_name {Km : Nat} (a1 a2 : Int) (h1 : r32 a1) (h2 : r32 a2) {K : zK} {F Fm : zF} {B Bm : zB} (h : IV cc Km K F B Fm Bm) : ∃ r1 F1 B1 r2 F2 B2, f_S_name K 0 a1 a2 F B = some (r1, F1, B1) ∧ f_M_name Km a1 a2 Fm Bm = some (r2, F2, B2) ∧ IV cc Km K F1 B1 F2 B2 := by
  obtain ⟨x, y, e, e1, e2, e3, e4⟩ := prt h h1 h2
  refine rd2 h ?_ ?_
  · unfold f_S_name f_S_name_19
    rw [if_pos (IV_12 h), e1, zb_s]
    rcases e4 with ⟨x0, _⟩ | ⟨_, x0, _⟩
    · exact zR_i (fun _ => zR_s) (fun a => absurd x0 a)
    · exact zR_i (fun _ => zR_s) (fun _ => zR_g x0 zR_s)
  · unfold f_M_name f_M_name_24
    rw [e2, zb_s, e3, zb_s]
    rcases e4 with ⟨_, e0⟩ | ⟨e0, _, y0, z0, _⟩
    · rw [e0]
      exact zR_g (by decide) (zR_i (fun _ => zR_s) (fun a => absurd rfl a))
    · rw [e0]
      exact zR_g (by decide) (zR_i (fun _ => zR_s) (fun _ => zR_g y0 (zR_g z0 zR_s)))
end
end
section
section
variable {cc : Int}
/-! ===== track, sound: they only read the opened file ===== -/
theorem p_track {Km : Nat} (a1 : Int) (h1 : r32 a1) {K : zK} {F Fm : zF} {B Bm : zB} (h : IV cc Km K F B Fm Bm) : ∃ r1 F1 B1 r2 F2 B2, f_S_track K 0 a1 F B = some (r1, F1, B1) ∧ f_M_track Km a1 Fm Bm = some (r2, F2, B2) ∧ IV cc Km K F1 B1 F2 B2 := by
  have h12 := IV_12 h
  have hO : IOp K F B Fm Bm := by obtain ⟨_, _, _, _, _, _, _, _, hO, _⟩ := h; exact hO
  obtain ⟨⟨_, i2⟩, _, _, i5⟩ := hO
  have g72 : r32 (Fm 14 0 72) := by
    rcases i5 with ⟨_, z⟩ | ⟨_, z, _⟩ <;> rw [z] <;> decide
  refine rd2 h ?_ ?_
  · unfold f_S_track f_S_track_17 f_S_track_45
    exact zR_g h12 (zR_i (fun _ => zR_s) (fun a => zR_g h1 (zR_i (fun _ => zR_s) (fun b => zR_i (fun c => zR_i (fun _ => zR_g ⟨(by first | decide | omega), i2⟩ zR_s) (fun d => zR_g ⟨(by first | decide | omega), i2⟩ (zR_g (by first | decide | omega) zR_s))) (fun _ => zR_s)))))
  · unfold f_M_track f_M_track_26 f_M_track_29
    exact zR_g g72 (zR_i (fun _ => zR_s) (fun _ => zR_g h1 (zR_i (fun _ => zR_s) (fun b => zR_i (fun _ => zR_s) (fun c => zR_g (by first | decide | omega) zR_s)))))
theorem p_sound {Km : Nat} (a1 a2 : Int) (h1 : r32 a1) (h2 : r32 a2) {K : zK} {F Fm : zF} {B Bm : zB} (h : IV cc Km K F B Fm Bm) : ∃ r1 F1 B1 r2 F2 B2, f_S_sound K 0 a1 a2 F B = some (r1, F1, B1) ∧ f_M_sound_0 Km a1 a2 Fm Bm = some (r2, F2, B2) ∧ IV cc Km K F1 B1 F2 B2 := by
  have h12 := IV_12 h
  have hO : IOp K F B Fm Bm := by obtain ⟨_, _, _, _, _, _, _, _, hO, _⟩ := h; exact hO
  obtain ⟨⟨_, i2⟩, _, _, i5⟩ := hO
  refine rd2 h ?_ ?_
  · unfold f_S_sound f_S_sound_32
    rcases i5 with ⟨z, _⟩ | ⟨z, _, hP⟩
    · exact zR_g h12 (zR_i (fun _ => zR_s) (fun a => absurd z a))
    · have l := hP.2.1
      exact zR_g h12 (zR_i (fun _ => zR_s) (fun a => zR_g h1 (zR_i (fun _ => zR_s) (fun b => zR_g ⟨z, i2⟩ (zR_g (by unfold r32; omega) (zR_i (fun _ => zR_s) (fun c => zR_g h2 (zR_i (fun _ => zR_s) (fun d => zR_i (fun e => zR_g (by first | decide | omega) (zR_g (by first | decide | omega) zR_s)) (fun _ => zR_s))))))))))
  · unfold f_M_sound_0 f_M_sound_0_22 f_M_sound_0_106
    rcases i5 with ⟨_, z⟩ | ⟨_, z, hP⟩
    · exact zR_g (by rw [z]; decide) (zR_i (fun _ => zR_s) (fun a => absurd z a))
    · have l := hP.2.1
      have q := hP.2.2.2.1
      have q0 := hP.1.1
      exact zR_g (by rw [z]; decide) (zR_i (fun _ => zR_s) (fun a => zR_g h1 (zR_i (fun _ => zR_s) (fun b => zR_g (by unfold r32; omega) (zR_i (fun c => by
        have q1 := q a1 (by first | decide | omega) (by first | decide | omega)
        exact zR_g h2 (zR_i (fun _ => zR_g (by first | decide | omega) (zR_g (by unfold r32; omega) zR_s)) (fun _ => zR_i (fun _ => zR_g (by first | decide | omega) (zR_g (by unfold r32; omega) zR_s)) (fun _ => zR_i (fun _ => zR_g (by first | decide | omega) (zR_g (by unfold r32; omega) zR_s)) (fun _ => zR_i (fun _ => zR_g (by first | decide | omega) (zR_g (by unfold r32; omega) zR_s)) (fun _ => zR_i (fun _ => zR_g (by first | decide | omega) zR_s) (fun _ => zR_i (fun _ => zR_g (by first | decide | omega) zR_s) (fun _ => zR_s)))))))) (fun _ => zR_s))))))
end
end
section
section
variable {cc : Int}
/-! ===== event, pitch ===== -/
theorem C_gcdR {K : zK} {F : zF} {B : zB} : ∀ (d n : Nat) (k x y : Int), k + d = 200 → 0 ≤ k → d < n → 0 ≤ x → x < 9223372036854775808 → 0 ≤ y → y < 9223372036854775808 → ∃ r, f_S_gcd_9 K n k y x F B = some (r, F, B) ∧ 0 ≤ r ∧ r < 9223372036854775808 := by
  intro d
  induction d with
  | zero =>
    intro n k x y hk k0 hn x0 x1 y0 y1
    obtain ⟨p, rfl⟩ : ∃ p, n = p + 1 := ⟨n - 1, (by first | decide | omega)⟩
    rw [f_S_gcd_9, if_pos (by unfold r32; omega), if_pos (by first | decide | omega), f_S_gcd_45]
    exact ⟨x, rfl, x0, x1⟩
  | succ d ih =>
    intro n k x y hk k0 hn x0 x1 y0 y1
    obtain ⟨p, rfl⟩ : ∃ p, n = p + 1 := ⟨n - 1, (by first | decide | omega)⟩
    rw [f_S_gcd_9, if_pos (by unfold r32; omega), if_neg (by first | decide | omega), if_pos (by unfold r64; omega)]
    by_cases e : y = 0
    · rw [if_pos (zcmp_0.mpr e), f_S_gcd_45]
      exact ⟨x, rfl, x0, x1⟩
    · rw [if_neg (fun z => e (zcmp_0.mp z)), if_pos (lI_n0 (by first | decide | omega) (by unfold r64; omega)), zlrm_e x0 x1 (by first | decide | omega) y1]
      have m0 : 0 ≤ x % y := Int.emod_nonneg x e
      have m1 : x % y < y := Int.emod_lt_of_pos x (by first | decide | omega)
      exact ih p (k + 1) y (x % y) (by first | decide | omega) (by first | decide | omega) (by first | decide | omega) y0 y1 m0 (by first | decide | omega)
theorem C_above {K : zK} {x : Int} {F : zF} {B : zB} (hK : 300 ≤ K.1) (hx : 0 ≤ x ∧ x ≤ 1000000000000) : zR (f_S_above K x F B) F B := by
  obtain ⟨r, e, r0, r1⟩ := C_gcdR (K := K) (F := F) (B := B) 200 K.1 0 x 812851200 (by first | decide | omega) (by first | decide | omega) (by first | decide | omega) (by first | decide | omega) (by first | decide | omega) (by first | decide | omega) (by first | decide | omega)
  unfold f_S_above f_S_above_21 f_S_gcd
  rw [e, zb_s]
  exact zR_g (by unfold r64; omega) (zR_i (fun _ => zR_s) (fun z => zR_g (lI_n0 (by have : ¬ r = 0 := fun q => z (zcmp_0.mpr q); omega) (by unfold r64; omega)) zR_s))
theorem C_below {K : zK} {x : Int} {F : zF} {B : zB} (hK : 300 ≤ K.1) (hx : 0 ≤ x ∧ x ≤ 1000000000000) : zR (f_S_below K x F B) F B := by
  obtain ⟨r, e, r0, r1⟩ := C_gcdR (K := K) (F := F) (B := B) 200 K.1 0 x 812851200 (by first | decide | omega) (by first | decide | omega) (by first | decide | omega) (by first | decide | omega) (by first | decide | omega) (by first | decide | omega) (by first | decide | omega)
  unfold f_S_below f_S_below_25 f_S_gcd
  rw [e, zb_s]
  exact zR_g (by unfold r64; omega) (zR_i (fun _ => zR_s) (fun z => zR_g (lI_n0 (by have : ¬ r = 0 := fun q => z (zcmp_0.mpr q); omega) (by unfold r64; omega)) zR_s))
theorem zR_b {x : zO} {k : Int → zF → zB → zO} {F : zF} {B : zB} (h : zR x F B) (g : ∀ r, zR (k r F B) F B) : zR (zbind x k) F B := by
  obtain ⟨r, e⟩ := h
  rw [e, zb_s]; exact g r
theorem IV_k {Km : Nat} {K : zK} {F Fm : zF} {B Bm : zB} (h : IV cc Km K F B Fm Bm) : 60000 ≤ K.1 ∧ 70000000000 < Km ∧ GS K B ∧ XS Bm := by
  obtain ⟨p, p0, p1, w, w0, w1, hE, _, _, _, _, hK⟩ := h
  exact ⟨hK, hE.1.1.2.1, hE.1.2.2.1.1, hE.1.2.2.1.2.2.2.2.1⟩
theorem evt {Km : Nat} {K : zK} {F Fm : zF} {B Bm : zB} (h : IV cc Km K F B Fm Bm) {a1 a2 a3 : Int} (h1 : r32 a1) (h2 : r32 a2) (h3 : r32 a3) : ∃ x y e, f_S_eventAt K 0 a1 a2 a3 F B = some (x, F, B) ∧ f_M_piece Km a1 Fm Bm = some (y, Fm, Bm) ∧ f_M_isVoice Km y a2 Fm Bm = some (e, Fm, Bm) ∧ ((x < 0 ∧ (e = 0 ∨ (e = 1 ∧ (0 ≤ y ∧ y < 3) ∧ (0 ≤ a2 ∧ a2 < 4) ∧ r32 (Bm 13 y 12 a2) ∧ (a3 < 0 ∨ Bm 13 y 12 a2 ≤ a3)))) ∨ (e = 1 ∧ (0 ≤ x ∧ x < K.2 1) ∧ (0 ≤ y ∧ y < 3) ∧ (0 ≤ a2 ∧ a2 < 4) ∧ (0 ≤ a3 ∧ a3 < Bm 13 y 12 a2 ∧ Bm 13 y 12 a2 ≤ 200) ∧ EVK y x (1000 * a2 + a3) F B Bm ∧ (0 ≤ F 1 x 0 ∧ F 1 x 0 ≤ 1000000000000))) := by
  obtain ⟨x, y, e, e1, e2, e3, e4⟩ := prt h h1 h2
  have h12 := IV_12 h
  unfold f_S_eventAt f_S_eventAt_26 f_S_eventAt_37
  rw [if_pos h12, e1, zb_s]
  rcases e4 with ⟨x0, rfl⟩ | ⟨rfl, x0, y0, z0, q, V, vV, ex, hP, _⟩
  · rw [if_pos x0]
    exact ⟨-1, y, 0, rfl, e2, e3, Or.inl ⟨(by first | decide | omega), Or.inl rfl⟩⟩
  · obtain ⟨_, m, g, hV, _⟩ := hP.2.2 a2 z0.1 vV
    rw [← ex] at hV
    obtain ⟨v1, v2, v3, v4, v5, v6, _⟩ := hV
    rw [if_neg (by first | decide | omega), if_pos h3]
    by_cases c : a3 < 0
    · rw [if_pos c]
      exact ⟨-1, y, 1, rfl, e2, e3, Or.inl ⟨(by first | decide | omega), Or.inr ⟨rfl, y0, z0, by unfold r32; omega, Or.inl c⟩⟩⟩
    · rw [if_neg c, if_pos x0, if_pos (by unfold r32; omega)]
      by_cases d : a3 < F 4 x 6
      · rw [if_pos d, if_pos (by first | decide | omega)]
        obtain ⟨w1, w2, _⟩ := v6 a3.toNat (by first | decide | omega)
        rw [show ((a3.toNat : Nat) : Int) = a3 by omega] at w1 w2
        have i1 := (IV_k h).2.2.1.2.2.2.1 x a3 x0.1 x0.2 (by first | decide | omega) (by first | decide | omega)
        have s0 := sumZ_0 v3 a3.toNat (by first | decide | omega)
        have s1 := sumZ_m v3 (m - a3.toNat) a3.toNat (by first | decide | omega)
        obtain ⟨_, _, bl⟩ := bar_v (n := F 6 q 4) (d := F 6 q 5) hP.2.1.2.2.1.2 hP.2.1.2.2.2.1.2
        exact ⟨_, y, 1, rfl, e2, e3, Or.inr ⟨rfl, (by first | decide | omega), y0, z0, (by first | decide | omega), w1, (by first | decide | omega)⟩⟩
      · rw [if_neg d]
        exact ⟨-1, y, 1, rfl, e2, e3, Or.inl ⟨(by first | decide | omega), Or.inr ⟨rfl, y0, z0, by unfold r32; omega, Or.inr (by first | decide | omega)⟩⟩⟩
theorem p_event {Km : Nat} (a1 a2 a3 a4 : Int) (h1 : r32 a1) (h2 : r32 a2) (h3 : r32 a3) (h4 : r32 a4) {K : zK} {F Fm : zF} {B Bm : zB} (h : IV cc Km K F B Fm Bm) : ∃ r1 F1 B1 r2 F2 B2, f_S_event K 0 a1 a2 a3 a4 F B = some (r1, F1, B1) ∧ f_M_event_1 Km a1 a2 a3 a4 Fm Bm = some (r2, F2, B2) ∧ IV cc Km K F1 B1 F2 B2 := by
  obtain ⟨x, y, e, e1, e2, e3, e4⟩ := evt h h1 h2 h3
  have hK := (IV_k h).1
  refine rd2 h ?_ ?_
  · unfold f_S_event
    rw [if_pos (IV_12 h), e1, zb_s]
    rcases e4 with ⟨x0, _⟩ | ⟨_, x0, _, _, _, ev, pl⟩
    · exact zR_i (fun _ => zR_s) (fun a => absurd x0 a)
    · obtain ⟨_, _, _, _, l1, _, _, k7, k8, k9, k10⟩ := ev
      have k11 := k10.2.2.1
      exact zR_i (fun _ => zR_s) (fun _ => zR_g h4 (zR_i (fun _ => zR_g x0 (zR_b (C_above (by first | decide | omega) pl) (fun _ => zR_s))) (fun _ => zR_i (fun _ => zR_g x0 (zR_b (C_below (by first | decide | omega) pl) (fun _ => zR_s))) (fun _ => zR_i (fun _ => zR_g x0 (zR_b (C_above (by first | decide | omega) (by first | decide | omega)) (fun _ => zR_s))) (fun _ => zR_i (fun _ => zR_g x0 (zR_b (C_below (by first | decide | omega) (by first | decide | omega)) (fun _ => zR_s))) (fun _ => zR_i (fun _ => zR_g x0 (zR_g (by unfold r32; omega) zR_s)) (fun _ => zR_i (fun _ => zR_g x0 (zR_g (by unfold r32; omega) zR_s)) (fun _ => zR_i (fun _ => zR_g x0 (zR_g (by unfold r32; omega) zR_s)) (fun _ => zR_i (fun _ => zR_g x0 (zR_g (by unfold r32; omega) zR_s)) (fun _ => zR_s))))))))))
  · unfold f_M_event_1 f_M_event_1_31
    rw [e2, zb_s, e3, zb_s]
    rcases e4 with ⟨_, e0 | ⟨e0, y0, z0, r0, c0⟩⟩ | ⟨e0, _, y0, z0, c0, ev, _⟩
    · rw [e0]
      exact zR_g (by decide) (zR_i (fun _ => zR_s) (fun a => absurd rfl a))
    · rw [e0]
      exact zR_g (by decide) (zR_i (fun _ => zR_s) (fun _ => zR_g h3 (zR_i (fun _ => zR_s) (fun a => zR_g y0 (zR_g z0 (zR_g r0 (zR_i (fun b => absurd b (by first | decide | omega)) (fun _ => zR_s))))))))
    · rw [e0]
      obtain ⟨_, _, _, _, l1, _, _, k7, k8, k9, k10⟩ := ev
      have k11 := k10.2.2.1
      have k12 := k10.2.1
      exact zR_g (by decide) (zR_i (fun _ => zR_s) (fun _ => zR_g h3 (zR_i (fun _ => zR_s) (fun a => zR_g y0 (zR_g z0 (zR_g (by unfold r32; omega) (zR_i (fun _ => zR_g h4 (zR_i (fun _ => zR_g (by first | decide | omega) zR_s) (fun _ => zR_i (fun _ => zR_g (by first | decide | omega) zR_s) (fun _ => zR_i (fun _ => zR_g (by first | decide | omega) zR_s) (fun _ => zR_i (fun _ => zR_g (by first | decide | omega) zR_s) (fun _ => zR_i (fun _ => zR_g (by first | decide | omega) (zR_g (by unfold r32; omega) zR_s)) (fun _ => zR_i (fun _ => zR_g (by first | decide | omega) (zR_g (by unfold r32; omega) zR_s)) (fun _ => zR_i (fun _ => zR_g (by first | decide | omega) (zR_g (by unfold r32; omega) zR_s)) (fun _ => zR_i (fun _ => zR_g (by first | decide | omega) (zR_g (by unfold r32; omega) zR_s)) (fun _ => zR_s)))))))))) (fun _ => zR_s))))))))
theorem p_pitch {Km : Nat} (a1 a2 a3 a4 a5 : Int) (h1 : r32 a1) (h2 : r32 a2) (h3 : r32 a3) (h4 : r32 a4) (h5 : r32 a5) {K : zK} {F Fm : zF} {B Bm : zB} (h : IV cc Km K F B Fm Bm) : ∃ r1 F1 B1 r2 F2 B2, f_S_pitch K 0 a1 a2 a3 a4 a5 F B = some (r1, F1, B1) ∧ f_M_pitch Km a1 a2 a3 a4 a5 Fm Bm = some (r2, F2, B2) ∧ IV cc Km K F1 B1 F2 B2 := by
  obtain ⟨x, y, e, e1, e2, e3, e4⟩ := evt h h1 h2 h3
  refine rd2 h ?_ ?_
  · unfold f_S_pitch f_S_pitch_29
    rw [if_pos (IV_12 h), e1, zb_s]
    rcases e4 with ⟨x0, _⟩ | ⟨_, x0, _, _, _, ev, pl⟩
    · exact zR_i (fun _ => zR_s) (fun a => absurd x0 a)
    · obtain ⟨_, _, _, _, l1, _, _, k7, k8, k9, k10⟩ := ev
      have k11 := k10.2.2.1
      exact zR_i (fun _ => zR_s) (fun _ => zR_g h4 (zR_i (fun _ => zR_s) (fun a => zR_g x0 (zR_g (by unfold r32; omega) (zR_i (fun b => zR_g h5 (zR_i (fun _ => zR_g (by first | decide | omega) zR_s) (fun _ => zR_i (fun _ => zR_g (by first | decide | omega) zR_s) (fun _ => zR_i (fun _ => zR_b ⟨_, C_tone x0 (by first | decide | omega) (k10.2.2.2.1 a4 (by first | decide | omega) b).2.2.1⟩ (fun _ => zR_s)) (fun _ => zR_s))))) (fun _ => zR_s))))))
  · unfold f_M_pitch f_M_pitch_54 f_M_pitch_121
    rw [e2, zb_s, e3, zb_s]
    rcases e4 with ⟨_, e0 | ⟨e0, y0, z0, r0, c0⟩⟩ | ⟨e0, _, y0, z0, c0, ev, _⟩
    · rw [e0]
      exact zR_g (by decide) (zR_i (fun _ => zR_s) (fun a => absurd rfl a))
    · rw [e0]
      exact zR_g (by decide) (zR_i (fun _ => zR_s) (fun _ => zR_g h3 (zR_i (fun _ => zR_s) (fun a => zR_g y0 (zR_g z0 (zR_g r0 (zR_i (fun _ => zR_s) (fun b => absurd (show Bm 13 y 12 a2 ≤ a3 by omega) b))))))))
    · rw [e0]
      obtain ⟨_, _, _, _, l1, _, _, k7, k8, k9, k10⟩ := ev
      have k11 := k10.2.2.1
      have k12 := k10.2.1
      have tn : ∀ z, 0 ≤ z → z < 24000 → zR (f_M_toneAt Km y z Fm Bm) Fm Bm := fun z b c => by
        unfold f_M_toneAt f_M_tone f_M_tone_18
        refine zR_g y0 (zR_g ⟨b, c⟩ (zR_b (zR_g (zrm_R _ _) (zR_i (fun _ => zR_s) (fun _ => zR_s))) (fun _ => zR_s)))
      exact zR_g (by decide) (zR_i (fun _ => zR_s) (fun _ => zR_g h3 (zR_i (fun _ => zR_s) (fun a => zR_g y0 (zR_g z0 (zR_g (by unfold r32; omega) (zR_i (fun _ => zR_s) (fun b => zR_g h4 (zR_i (fun _ => zR_s) (fun c => zR_g (by first | decide | omega) (zR_g (by unfold r32; omega) (zR_i (fun d => zR_g h5 (zR_i (fun _ => zR_g (by first | decide | omega) zR_s) (fun _ => zR_i (fun _ => zR_g (by first | decide | omega) zR_s) (fun _ => zR_i (fun _ => zR_b (tn _ (by first | decide | omega) (by first | decide | omega)) (fun _ => zR_s)) (fun _ => zR_s))))) (fun _ => zR_s)))))))))))))
end
end
section
section
variable {cc : Int}
/-! ===== stroke ===== -/
theorem C_toldR {K : zK} {s w c l1 l2 : Int} {F : zF} {B : zB} {Fm : zF} {Bm : zB} (hs : 0 ≤ s ∧ s < K.2 5) (hP : PFD s w c F B Fm Bm) (hr : rwS s F) (h1 : r32 l1) (h2 : r32 l2) : zR (f_Performance_strokeTold K s l1 l2 F B) F B := by
  have hc := hP.1.2
  by_cases r : 0 ≤ l1 ∧ l1 < 2 * c
  · obtain ⟨on, ev, j, e, y1, y2, y3, y4, y5, y6, _⟩ := PFD_s hP r.1 r.2
    obtain ⟨t0, t1, t2, t3⟩ := C_toldK (K := K) hs ⟨hc.1, hc.2⟩ hr r.1 r.2 y1 y2 y3 y4 y5 y6 e
    by_cases c0 : l2 = 0
    · rw [c0]; exact ⟨_, t0⟩
    · by_cases c1 : l2 = 1
      · rw [c1]; exact ⟨_, t1⟩
      · by_cases c2 : l2 = 2
        · rw [c2]; exact ⟨_, t2⟩
        · by_cases c3 : l2 = 3
          · rw [c3]; exact ⟨_, t3⟩
          · obtain ⟨g1, g2⟩ : ((lnC 5 s (F 5 s 8).toNat : Nat) : Int) = 4000 ∧ zk 5 (F 5 s 8).toNat = (3, 1) := by
              rcases hr with ⟨e8, _⟩ | ⟨e8, _⟩
              · rw [e8]; exact ⟨rfl, by decide⟩
              · rw [e8]; exact ⟨rfl, by decide⟩
            have g3 : lnC 5 s (F 5 s 8).toNat ≤ 2147483647 := by omega
            unfold f_Performance_strokeTold
            rw [if_pos h1, if_neg (by first | decide | omega), if_pos hs, hc.1, if_pos (by unfold r32; omega), if_pos r.2, if_pos (by first | decide | omega), if_pos g2, if_pos g3, if_pos h2, if_neg c0, if_neg c1, if_neg c2, if_neg c3]
            exact zR_s
  · unfold f_Performance_strokeTold f_Performance_strokeTold_14
    rw [if_pos h1]
    by_cases z : l1 < 0
    · rw [if_pos z]; exact zR_s
    · rw [if_neg z, if_pos hs, hc.1, if_pos (by unfold r32; omega), if_neg (by first | decide | omega)]; exact zR_s
theorem prf {Km : Nat} {K : zK} {F Fm : zF} {B Bm : zB} (h : IV cc Km K F B Fm Bm) {a1 : Int} (h1 : r32 a1) : ∃ x y, f_S_performanceOf K 0 a1 F B = some (x, F, B) ∧ f_M_piece Km a1 Fm Bm = some (y, Fm, Bm) ∧ ((x < 0 ∧ (y < 0 ∨ ((0 ≤ y ∧ y < 3) ∧ Fm 13 y 53 = 0))) ∨ ((0 ≤ x ∧ x < K.2 5) ∧ (0 ≤ y ∧ y < 3) ∧ Fm 13 y 53 = 1 ∧ ∃ c, PFD x y c F B Fm Bm ∧ rwS x F)) := by
  obtain ⟨x, y, e1, e2, e3⟩ := slot h h1
  unfold f_S_performanceOf f_S_performanceOf_17 f_S_performanceOf_25
  rw [if_pos (IV_12 h), e1, zb_s]
  rcases e3 with ⟨x0, y0⟩ | ⟨x0, y0, V, _, _, d10, d11, d9, dr, ds, dp, dz⟩
  · rw [if_pos x0]
    exact ⟨-1, y, rfl, e2, Or.inl ⟨(by first | decide | omega), Or.inl (by first | decide | omega)⟩⟩
  · rw [if_neg (by first | decide | omega), if_pos x0]
    rcases d10 with z | z
    · rw [z, if_pos (by decide), if_pos rfl]
      exact ⟨-1, y, rfl, e2, Or.inl ⟨(by first | decide | omega), Or.inr ⟨y0, dz z⟩⟩⟩
    · rw [z, if_pos (by decide), if_neg (by decide)]
      obtain ⟨z11, c, pfd⟩ := dp z
      have s0 := (ds z11).1
      exact ⟨_, y, rfl, e2, Or.inr ⟨⟨s0, d9⟩, y0, pfd.2.1.1, c, pfd, dr s0⟩⟩
theorem p_stroke {Km : Nat} (a1 a2 a3 : Int) (h1 : r32 a1) (h2 : r32 a2) (h3 : r32 a3) {K : zK} {F Fm : zF} {B Bm : zB} (h : IV cc Km K F B Fm Bm) : ∃ r1 F1 B1 r2 F2 B2, f_S_stroke K 0 a1 a2 a3 F B = some (r1, F1, B1) ∧ f_M_stroke Km a1 a2 a3 Fm Bm = some (r2, F2, B2) ∧ IV cc Km K F1 B1 F2 B2 := by
  obtain ⟨x, y, e1, e2, e3⟩ := prf h h1
  refine rd2 h ?_ ?_
  · unfold f_S_stroke f_S_stroke_23
    rw [if_pos (IV_12 h), e1, zb_s]
    rcases e3 with ⟨x0, _⟩ | ⟨x0, _, _, c, pfd, hr⟩
    · exact zR_i (fun _ => zR_s) (fun a => absurd x0 a)
    · exact zR_i (fun _ => zR_s) (fun _ => zR_g x0 (zR_b (C_toldR x0 pfd hr h2 h3) (fun _ => zR_s)))
  · unfold f_M_stroke f_M_stroke_33 f_M_stroke_89
    rw [e2, zb_s]
    rcases e3 with ⟨_, y0 | ⟨y0, z⟩⟩ | ⟨_, y0, z, c, pfd, _⟩
    · exact zR_i (fun _ => zR_s) (fun a => absurd y0 a)
    · exact zR_i (fun _ => zR_s) (fun _ => zR_g y0 (zR_g (by rw [z]; decide) (zR_i (fun _ => zR_s) (fun a => absurd z a))))
    · have hc := pfd.1
      have h60 := pfd.2.1.2.2
      exact zR_i (fun _ => zR_s) (fun _ => zR_g y0 (zR_g (by rw [z]; decide) (zR_i (fun _ => zR_s) (fun _ => zR_g h2 (zR_i (fun _ => zR_s) (fun a => zR_g (by rw [h60]; unfold r32; omega) (zR_i (fun b => zR_g h3 (zR_i (fun _ => zR_g (by first | decide | omega) zR_s) (fun _ => zR_i (fun _ => zR_g (by first | decide | omega) zR_s) (fun _ => zR_i (fun _ => zR_g (by first | decide | omega) zR_s) (fun _ => zR_i (fun _ => zR_g (by first | decide | omega) zR_s) (fun _ => zR_s)))))) (fun _ => zR_s))))))))
end
end
section
section
variable {cc : Int}
/-! ===== note: the reference's side ===== -/
theorem L_noteR {Km : Nat} {a1 a2 a3 a4 : Int} (h1 : r32 a1) (h2 : r32 a2) (h3 : r32 a3) (h4 : r32 a4) {K : zK} {F Fm : zF} {B Bm : zB} (h : IV cc Km K F B Fm Bm) : zR (f_M_note_0 Km a1 a2 a3 a4 Fm Bm) Fm Bm := by
  obtain ⟨x, y, e, e1, e2, e3, e4⟩ := prt h h1 h2
  unfold f_M_note_0 f_M_note_0_31
  rw [e2, zb_s, e3, zb_s]
  rcases e4 with ⟨_, e0⟩ | ⟨e0, x0, y0, z0, q, V, vV, ex, hP, _⟩
  · rw [e0]
    exact zR_g (by decide) (zR_i (fun _ => zR_s) (fun a => absurd rfl a))
  · obtain ⟨_, m, g, hV, _⟩ := hP.2.2 a2 z0.1 vV
    obtain ⟨v1, v2, v3, v4, v5, v6, v7, v8, c, nw, _⟩ := hV
    obtain ⟨n1, n2, n3, n4, n5⟩ := nw
    rw [e0]
    refine zR_g (by decide) (zR_i (fun _ => zR_s) (fun _ => zR_g h3 (zR_i (fun _ => zR_s) (fun a => zR_g y0 (zR_g z0 (zR_g (by rw [n4]; unfold r32; omega) (zR_i (fun b => ?_) (fun _ => zR_s))))))))
    rw [n4] at b
    obtain ⟨k0, k1, _, k4, k5, _⟩ := n5 a3 (by first | decide | omega) b
    have xs := (IV_k h).2.2.2.2 y (800 * a2 + a3)
    have r0 : r32 (Bm 13 y 30 (800 * a2 + a3)) := by rw [← k0.1]; unfold r32; omega
    have r1 : r32 (Bm 13 y 31 (800 * a2 + a3)) := by rw [← k1.1]; unfold r32; omega
    have r4 : r32 (Bm 13 y 34 (800 * a2 + a3)) := by rw [← k4.1]; unfold r32; omega
    have r5 : r32 (Bm 13 y 35 (800 * a2 + a3)) := by rw [← k5.1]; unfold r32; omega
    obtain ⟨r6, r7, r8, r9, r10, r11⟩ := xs
    exact zR_g h4 (zR_i (fun _ => zR_g (by first | decide | omega) (zR_g r0 zR_s)) (fun _ => zR_i (fun _ => zR_g (by first | decide | omega) (zR_g r1 zR_s)) (fun _ => zR_i (fun _ => zR_g (by first | decide | omega) zR_s) (fun _ => zR_i (fun _ => zR_g (by first | decide | omega) zR_s) (fun _ => zR_i (fun _ => zR_g (by first | decide | omega) (zR_g r4 zR_s)) (fun _ => zR_i (fun _ => zR_g (by first | decide | omega) (zR_g r5 zR_s)) (fun _ => zR_i (fun _ => zR_g (by first | decide | omega) (zR_g r6 zR_s)) (fun _ => zR_i (fun _ => zR_g (by first | decide | omega) (zR_g r7 zR_s)) (fun _ => zR_i (fun _ => zR_g (by first | decide | omega) (zR_g r8 zR_s)) (fun _ => zR_i (fun _ => zR_g (by first | decide | omega) (zR_g r9 zR_s)) (fun _ => zR_i (fun _ => zR_g (by first | decide | omega) (zR_g r10 zR_s)) (fun _ => zR_i (fun _ => zR_g (by first | decide | omega) (zR_g r11 zR_s)) (fun _ => zR_s)))))))))))))
end
end
section
section
variable {cc : Int}
/-! ===== follows: the class's side ===== -/
def EKc (K : zK) (e : Int) (F : zF) (B : zB) : Prop := (0 ≤ e ∧ e < K.2 1) ∧ (0 ≤ F 1 e 10 ∧ F 1 e 10 ≤ 6) ∧ ∀ k, 0 ≤ k → k < F 1 e 10 → (0 ≤ B 1 e 12 k ∧ B 1 e 12 k ≤ 62) ∧ (-2 ≤ B 1 e 13 k ∧ B 1 e 13 k ≤ 2)
def PKc (K : zK) (x m : Int) (F : zF) (B : zB) : Prop := (0 ≤ x ∧ x < K.2 4) ∧ F 4 x 6 = m ∧ (0 ≤ m ∧ m ≤ 200) ∧ ∀ i, 0 ≤ i → i < m → EKc K (B 4 x 5 i) F B ∧ (0 ≤ F 1 (B 4 x 5 i) 0 ∧ F 1 (B 4 x 5 i) 0 ≤ 1000000000000) ∧ (0 ≤ F 1 (B 4 x 5 i) 1 ∧ F 1 (B 4 x 5 i) 1 ≤ 1000000000000)
section
variable {K : zK} {F : zF} {B : zB}
theorem C_isR {e : Int} (h : EKc K e F B) : ∃ r, f_Event_isRest K e F B = some (r, F, B) ∧ (r = 0 ∨ r = 1) := by
  unfold f_Event_isRest f_Event_isRest_12
  rw [if_pos h.1, if_pos (by have := h.2.1; unfold r32; omega)]
  by_cases z : F 1 e 10 = 0
  · rw [if_pos z, if_pos (Or.inr rfl)]; exact ⟨1, rfl, Or.inr rfl⟩
  · rw [if_neg z, if_pos (Or.inl rfl)]; exact ⟨0, rfl, Or.inl rfl⟩
theorem C_toneR {e k : Int} (h : EKc K e F B) (k0 : 0 ≤ k ∧ k < F 1 e 10) : ∃ r, f_Event_tone K e k F B = some (r, F, B) ∧ r32 r := by
  have b := h.2.2 k k0.1 k0.2
  refine ⟨_, C_tone h.1 (by have := h.2.1; omega) b.1, ?_⟩
  have t := tnv_r b.1.1 b.1.2 b.2.1 b.2.2
  unfold r32; omega
theorem C_top4 {e : Int} (h : EKc K e F B) : ∀ (d n : Nat) (i l : Int), i + d = F 1 e 10 → 0 ≤ i → d < n → -1 ≤ l → l < i → ∃ r, f_Event_top_4 K n i l e F B = some (r, F, B) ∧ -1 ≤ r ∧ r < F 1 e 10 := by
  have hc := h.2.1
  intro d
  induction d with
  | zero =>
    intro n i l hi i0 hn l0 l1
    obtain ⟨p, rfl⟩ : ∃ p, n = p + 1 := ⟨n - 1, (by first | decide | omega)⟩
    rw [f_Event_top_4, if_pos h.1, if_pos (by unfold r32; omega), if_pos (by unfold r32; omega), if_pos (by first | decide | omega)]
    exact ⟨l, rfl, l0, (by first | decide | omega)⟩
  | succ d ih =>
    intro n i l hi i0 hn l0 l1
    obtain ⟨p, rfl⟩ : ∃ p, n = p + 1 := ⟨n - 1, (by first | decide | omega)⟩
    rw [f_Event_top_4, if_pos h.1, if_pos (by unfold r32; omega), if_pos (by unfold r32; omega), if_neg (by first | decide | omega), if_pos (by unfold r32; omega)]
    unfold f_Event_top_30 f_Event_top_32
    by_cases z : l = -1
    · rw [if_pos z]
      exact ih p (i + 1) i (by first | decide | omega) (by first | decide | omega) (by first | decide | omega) (by first | decide | omega) (by first | decide | omega)
    · rw [if_neg z]
      obtain ⟨r7, e7, b7⟩ := C_toneR h (k := i) (by first | decide | omega)
      obtain ⟨r8, e8, b8⟩ := C_toneR h (k := l) (by first | decide | omega)
      rw [e7, zb_s, e8, zb_s, if_pos b7, if_pos b8]
      by_cases y : r7 < r8
      · rw [if_pos y]
        exact ih p (i + 1) l (by first | decide | omega) (by first | decide | omega) (by first | decide | omega) l0 (by first | decide | omega)
      · rw [if_neg y]
        exact ih p (i + 1) i (by first | decide | omega) (by first | decide | omega) (by first | decide | omega) (by first | decide | omega) (by first | decide | omega)
theorem C_tpS {e : Int} (hK : 100 ≤ K.1) (h : EKc K e F B) : ∃ r, f_Event_topStep K e F B = some (r, F, B) ∧ 0 ≤ r ∧ r ≤ 62 := by
  have hc := h.2.1
  obtain ⟨r, e1, r0, r1⟩ := C_top4 h (F 1 e 10).toNat K.1 0 (-1) (by first | decide | omega) (by first | decide | omega) (by first | decide | omega) (by first | decide | omega) (by first | decide | omega)
  unfold f_Event_topStep f_Event_topStep_20 f_Event_top
  rw [if_pos h.1, e1, zb_s, if_pos (by unfold r32; omega)]
  by_cases z : r = -1
  · rw [if_pos z]; exact ⟨0, rfl, (by first | decide | omega), (by first | decide | omega)⟩
  · rw [if_neg z, if_pos (by first | decide | omega)]
    exact ⟨_, rfl, (h.2.2 r (by first | decide | omega) r1).1⟩
theorem C_fst {x m : Int} (h : PKc K x m F B) : ∀ (d n : Nat) (i : Int), i + d = m → 0 ≤ i → d < n → ∃ r, f_Part_firstSounding_2 K n i x F B = some (r, F, B) ∧ -1 ≤ r ∧ r < m := by
  obtain ⟨h1, h2, h3, h4⟩ := h
  intro d
  induction d with
  | zero =>
    intro n i hi i0 hn
    obtain ⟨p, rfl⟩ : ∃ p, n = p + 1 := ⟨n - 1, (by first | decide | omega)⟩
    rw [f_Part_firstSounding_2, if_pos h1, if_pos (by unfold r32; omega), h2, if_pos (by unfold r32; omega), if_pos (by first | decide | omega)]
    exact ⟨-1, rfl, (by first | decide | omega), (by first | decide | omega)⟩
  | succ d ih =>
    intro n i hi i0 hn
    obtain ⟨p, rfl⟩ : ∃ p, n = p + 1 := ⟨n - 1, (by first | decide | omega)⟩
    obtain ⟨r, e, r01⟩ := C_isR (h4 i i0 (by first | decide | omega)).1
    rw [f_Part_firstSounding_2, if_pos h1, if_pos (by unfold r32; omega), h2, if_pos (by unfold r32; omega), if_neg (by first | decide | omega), if_pos (by first | decide | omega), if_pos (h4 i i0 (by first | decide | omega)).1.1, e, zb_s, if_pos (by unfold r32; omega)]
    by_cases z : r = 0
    · rw [if_pos z]; exact ⟨i, rfl, (by first | decide | omega), (by first | decide | omega)⟩
    · rw [if_neg z]; exact ih p (i + 1) (by first | decide | omega) (by first | decide | omega) (by first | decide | omega)
theorem C_f48 {x y m m' a c st : Int} (hK : 100 ≤ K.1) (hx : PKc K x m F B) (hy : PKc K y m' F B) (ha : 0 ≤ a ∧ a < m) (hc : 0 ≤ c ∧ c < m') (hst : r32 st) : ∀ (d n : Nat) (i : Int), a + i + d = m → 0 ≤ i → d < n → ∃ r, f_Part_followedFor_48 K n i st y x a c F B = some (r, F, B) ∧ 0 ≤ r ∧ r ≤ 200 := by
  obtain ⟨h1, h2, h3, h4⟩ := hx
  obtain ⟨g1, g2, g3, g4⟩ := hy
  intro d
  induction d with
  | zero =>
    intro n i hi i0 hn
    obtain ⟨p, rfl⟩ : ∃ p, n = p + 1 := ⟨n - 1, (by first | decide | omega)⟩
    rw [f_Part_followedFor_48, if_pos h1, if_pos (by unfold r32; omega), h2, if_pos (by unfold r32; omega), if_pos (by first | decide | omega), f_Part_followedFor_164]
    exact ⟨i, rfl, (by first | decide | omega), (by first | decide | omega)⟩
  | succ d ih =>
    intro n i hi i0 hn
    obtain ⟨p, rfl⟩ : ∃ p, n = p + 1 := ⟨n - 1, (by first | decide | omega)⟩
    rw [f_Part_followedFor_48, if_pos h1, if_pos (by unfold r32; omega), h2, if_pos (by unfold r32; omega), if_neg (by first | decide | omega), if_pos g1, if_pos (by unfold r32; omega), g2, if_pos (by unfold r32; omega)]
    by_cases z : m' ≤ c + i
    · rw [if_pos z, f_Part_followedFor_164]
      exact ⟨i, rfl, (by first | decide | omega), (by first | decide | omega)⟩
    · obtain ⟨q1, q2, q3⟩ := h4 (a + i) (by first | decide | omega) (by first | decide | omega)
      obtain ⟨s1, s2, s3⟩ := g4 (c + i) (by first | decide | omega) (by first | decide | omega)
      obtain ⟨r, e, r01⟩ := C_isR q1
      obtain ⟨r', e', r01'⟩ := C_isR s1
      obtain ⟨t, et, t0, t1⟩ := C_tpS hK q1
      obtain ⟨t', et', t0', t1'⟩ := C_tpS hK s1
      rw [if_neg z, if_pos (by first | decide | omega), if_pos (by first | decide | omega), if_pos q1.1, e, zb_s, if_pos s1.1, e', zb_s, if_pos (by unfold r32; omega), if_pos (by unfold r32; omega)]
      have nxt := ih p (i + 1) (by first | decide | omega) (by first | decide | omega) (by first | decide | omega)
      have o123 : ∃ r, f_Part_followedFor_123 (f_Part_followedFor_48 K p) K (B 4 y 5 (c + i)) (B 4 x 5 (a + i)) i st y x a c F B = some (r, F, B) ∧ 0 ≤ r ∧ r ≤ 200 := by
        unfold f_Part_followedFor_123 f_Part_followedFor_124 f_Part_followedFor_155
        rw [if_pos (by decide), if_pos rfl]
        exact ⟨i, rfl, (by first | decide | omega), (by first | decide | omega)⟩
      by_cases er : r = r'
      · rw [if_pos er, if_pos (by unfold r64; omega), if_pos (by unfold r64; omega)]
        by_cases ez : zcmp (F 1 (B 4 x 5 (a + i)) 1) (F 1 (B 4 y 5 (c + i)) 1) = 0
        · rw [if_pos ez]
          unfold f_Part_followedFor_124 f_Part_followedFor_155 f_Part_followedFor_158
          rw [if_pos (by decide), if_neg (by decide), if_pos q1.1, e, zb_s, if_pos (by unfold r32; omega)]
          by_cases z0 : r = 0
          · rw [if_pos z0, if_pos s1.1, et', zb_s, et, zb_s, if_pos (by unfold r32; omega), if_pos hst]
            by_cases zs : t' - t = st
            · rw [if_pos zs]; exact nxt
            · rw [if_neg zs]; exact ⟨i, rfl, (by first | decide | omega), (by first | decide | omega)⟩
          · rw [if_neg z0]; exact nxt
        · rw [if_neg ez]; exact o123
      · rw [if_neg er]; exact o123
end
end
end
section
section
variable {cc : Int}
/-! ===== follows: the class's call returns ===== -/
theorem PKc_v {Km : Nat} {K : zK} {F Fm : zF} {B Bm : zB} (h : IV cc Km K F B Fm Bm) {q V w u x : Int} (hP : PK K V q w F B Fm Bm) (u0 : 0 ≤ u) (u1 : u < V) (ex : x = B 6 q 0 u) : ∃ m, PKc K x m F B := by
  obtain ⟨hH, m, g, hV, _⟩ := hP.2.2 u u0 u1
  have x0 := hH.1
  rw [← ex] at hV x0
  obtain ⟨v1, v2, v3, v4, v5, v6, _⟩ := hV
  refine ⟨m, x0, v1.1, (by first | decide | omega), fun i i0 i1 => ?_⟩
  obtain ⟨w1, w2, _⟩ := v6 i.toNat (by first | decide | omega)
  rw [show ((i.toNat : Nat) : Int) = i by omega] at w1 w2
  have j1 := (IV_k h).2.2.1.2.2.2.1 x i x0.1 x0.2 (by first | decide | omega) (by first | decide | omega)
  have s0 := sumZ_0 v3 i.toNat (by first | decide | omega)
  have s1 := sumZ_m v3 (m - i.toNat) i.toNat (by first | decide | omega)
  obtain ⟨_, _, bl⟩ := bar_v (n := F 6 q 4) (d := F 6 q 5) hP.2.1.2.2.1.2 hP.2.1.2.2.2.1.2
  obtain ⟨_, _, _, _, l1, _, _, k7, k8, k9, k10⟩ := w1
  exact ⟨⟨(by first | decide | omega), k10.2.2.1, fun k k0 k1 => (k10.2.2.2.1 k k0 k1).2.2⟩, (by first | decide | omega), (by first | decide | omega)⟩
theorem C_foll {K : zK} {F : zF} {B : zB} {x y m m' a c : Int} (hK : 60000 ≤ K.1) (hx : PKc K x m F B) (hy : PKc K y m' F B) (ha : 0 ≤ a ∧ a < m) (hc : 0 ≤ c ∧ c < m') : ∃ r, f_Part_followedFor K y x a c F B = some (r, F, B) ∧ 0 ≤ r ∧ r ≤ 200 ∧ (¬ r = 0 → F 1 (B 4 x 5 a) 0 < F 1 (B 4 y 5 c) 0) := by
  obtain ⟨q1, q2, q3⟩ := hx.2.2.2 a ha.1 ha.2
  obtain ⟨s1, s2, s3⟩ := hy.2.2.2 c hc.1 hc.2
  obtain ⟨t, et, t0, t1⟩ := C_tpS (by first | decide | omega) q1
  obtain ⟨t', et', t0', t1'⟩ := C_tpS (by first | decide | omega) s1
  have hm := hx.2.2.1
  have hm' := hy.2.2.1
  unfold f_Part_followedFor
  rw [if_pos hy.1, if_pos (by first | decide | omega), if_pos s1.1, if_pos hx.1, if_pos (by first | decide | omega), if_pos q1.1, if_pos (by unfold r64; omega), if_pos (by unfold r64; omega)]
  by_cases z : 0 < zcmp (F 1 (B 4 y 5 c) 0) (F 1 (B 4 x 5 a) 0)
  · rw [if_pos z, et', zb_s, if_pos q1.1, et, zb_s]
    obtain ⟨r, e, r0, r1⟩ := C_f48 (st := t' - t) (by first | decide | omega) hx hy ha hc (by unfold r32; omega) (m - a).toNat K.1 0 (by first | decide | omega) (by first | decide | omega) (by first | decide | omega)
    refine ⟨r, e, r0, r1, fun _ => ?_⟩
    rcases Int.lt_or_le (F 1 (B 4 x 5 a) 0) (F 1 (B 4 y 5 c) 0) with l | l
    · exact l
    · have := zcmp_m.mpr l; omega
  · rw [if_neg z]
    exact ⟨0, rfl, (by first | decide | omega), (by first | decide | omega), fun n => absurd rfl n⟩
theorem C_folR {Km : Nat} {a1 a2 a3 a4 : Int} (h1 : r32 a1) (h2 : r32 a2) (h3 : r32 a3) (h4 : r32 a4) {K : zK} {F Fm : zF} {B Bm : zB} (h : IV cc Km K F B Fm Bm) : zR (f_S_follows K 0 a1 a2 a3 a4 F B) F B := by
  have hK := (IV_k h).1
  obtain ⟨x, y, e, e1, e2, e3, e4⟩ := prt h h1 h2
  obtain ⟨x', y', e', e1', e2', e3', e4'⟩ := prt h h1 h3
  unfold f_S_follows f_S_follows_42
  rw [if_pos (IV_12 h), e1, zb_s, e1', zb_s]
  rcases e4 with ⟨x0, _⟩ | ⟨_, x0, y0, z0, q, V, vV, ex, hP, _⟩
  · exact zR_i (fun _ => zR_s) (fun a => absurd x0 a)
  rcases e4' with ⟨x0', _⟩ | ⟨_, x0', y0', z0', q', V', vV', ex', hP', _⟩
  · exact zR_i (fun _ => zR_s) (fun _ => zR_i (fun _ => zR_s) (fun a => absurd x0' a))
  obtain ⟨m, pk⟩ := PKc_v h hP z0.1 vV ex
  obtain ⟨m', pk'⟩ := PKc_v h hP' z0'.1 vV' ex'
  have hm := pk.2.2.1
  have hm' := pk'.2.2.1
  obtain ⟨r, er, r0, r1⟩ := C_fst pk m.toNat K.1 0 (by first | decide | omega) (by first | decide | omega) (by first | decide | omega)
  obtain ⟨s, es, s0, s1⟩ := C_fst pk' m'.toNat K.1 0 (by first | decide | omega) (by first | decide | omega) (by first | decide | omega)
  have er' : f_Part_firstSounding K x F B = some (r, F, B) := er
  have es' : f_Part_firstSounding K x' F B = some (s, F, B) := es
  refine zR_i (fun _ => zR_s) (fun _ => zR_i (fun _ => zR_s) (fun _ => zR_g h2 (zR_g h3 (zR_i (fun _ => zR_s) (fun _ => zR_g h4 (zR_i (fun _ => zR_s) (fun l0 => zR_i (fun l3 => zR_g x0 ?_) (fun _ => zR_s))))))))
  rw [er', zb_s, if_pos x0', es', zb_s, if_pos (by unfold r32; omega)]
  have o72 : zR (f_S_follows_72 K s r x' x a4 F B) F B := by
    unfold f_S_follows_72 f_S_follows_87
    rw [if_pos (by decide), if_pos rfl]
    exact zR_s
  by_cases c1 : r = -1
  · rw [if_pos c1]; exact o72
  · rw [if_neg c1, if_pos (by unfold r32; omega)]
    by_cases c2 : s = -1
    · rw [if_pos c2]; exact o72
    · obtain ⟨f, ef, f0, f1, fl⟩ := C_foll hK pk pk' (show 0 ≤ r ∧ r < m by omega) (show 0 ≤ s ∧ s < m' by omega)
      obtain ⟨q1, q2, q3⟩ := pk.2.2.2 r (by first | decide | omega) r1
      obtain ⟨u1, u2, u3⟩ := pk'.2.2.2 s (by first | decide | omega) s1
      obtain ⟨t, et, t0, t1⟩ := C_tpS (by first | decide | omega) q1
      obtain ⟨t', et', t0', t1'⟩ := C_tpS (by first | decide | omega) u1
      rw [if_neg c2, ef, zb_s]
      unfold f_S_follows_87
      refine zR_g (by unfold r32; omega) (zR_i (fun _ => zR_s) (fun nf => zR_g x0' (zR_g (by first | decide | omega) (zR_g u1.1 (zR_g x0 (zR_g (by first | decide | omega) (zR_g q1.1 (zR_g h4 (zR_i (fun _ => zR_s) (fun _ => zR_i (fun _ => ?_) (fun _ => zR_i (fun _ => ?_) (fun _ => ?_))))))))))))
      · rw [et', zb_s, if_pos q1.1, et, zb_s, if_pos (by unfold r32; omega)]; exact zR_s
      · exact zR_b (C_above (by first | decide | omega) (by have := fl nf; omega)) (fun _ => zR_s)
      · exact zR_b (C_below (by first | decide | omega) (by have := fl nf; omega)) (fun _ => zR_s)
end
end
section
section
variable {cc : Int}
/-! ===== follows: the reference's steps ===== -/
section
variable {K : Nat} {V w u x : Int} {F : zF} {B : zB}
theorem L_ln7 (hR : RDW V w F B) (u0 : 0 ≤ u) (u1 : u < V) (x0 : 1000 * u ≤ x) (x1 : x < 1000 * u + B 13 w 12 u) : ∀ (d n : Nat) (l m : Int), l + d = 6 * x + B 13 w 21 x → 6 * x ≤ l → d < n → (m = -1 ∨ (6 * x ≤ m ∧ m < l)) → (0 < d ∨ 0 ≤ m) → ∃ r, f_M_lineOf_7 K n l m w x F B = some (r, F, B) ∧ 6 * x ≤ r ∧ r < 6 * x + B 13 w 21 x := by
  have w0 := hR.1
  have hV := hR.2.1
  have hv := (rd_v hR u0 u1).1
  have he := (rd_e hR u0 u1 x0 x1).2.2.1
  have tn : ∀ z, 6 * x ≤ z → z < 6 * x + B 13 w 21 x → ∃ r, f_M_tone K (B 13 w 28 z) (B 13 w 29 z) F B = some (r, F, B) ∧ r32 r := fun z z0 z1 => by
    have p := rd_p hR u0 u1 x0 x1 (k := z - 6 * x) (by first | decide | omega) (by first | decide | omega)
    rw [show 6 * x + (z - 6 * x) = z by omega] at p
    obtain ⟨r, F', B', e, rfl, rfl, r0, r1⟩ := s_tone (K := K) (F := F) (B := B) p.1.1 p.1.2 p.2.1 p.2.2
    exact ⟨r, e, by unfold r32; omega⟩
  intro d
  induction d with
  | zero =>
    intro n l m hl l0 hn hm hd
    obtain ⟨p, rfl⟩ : ∃ p, n = p + 1 := ⟨n - 1, (by first | decide | omega)⟩
    rw [f_M_lineOf_7, if_pos w0, if_pos (by first | decide | omega), if_pos (by unfold r32; omega), if_pos (by unfold r32; omega), if_pos (by first | decide | omega)]
    exact ⟨m, rfl, (by first | decide | omega), (by first | decide | omega)⟩
  | succ d ih =>
    intro n l m hl l0 hn hm hd
    obtain ⟨p, rfl⟩ : ∃ p, n = p + 1 := ⟨n - 1, (by first | decide | omega)⟩
    rw [f_M_lineOf_7, if_pos w0, if_pos (by first | decide | omega), if_pos (by unfold r32; omega), if_pos (by unfold r32; omega), if_neg (by first | decide | omega), if_pos (by unfold r32; omega)]
    unfold f_M_lineOf_59 f_M_lineOf_61
    by_cases z : m < 0
    · rw [if_pos z]
      exact ih p (l + 1) l (by first | decide | omega) (by first | decide | omega) (by first | decide | omega) (by first | decide | omega) (by first | decide | omega)
    · obtain ⟨r9, e9, b9⟩ := tn l l0 (by first | decide | omega)
      obtain ⟨r11, e11, b11⟩ := tn m (by first | decide | omega) (by first | decide | omega)
      rw [if_neg z, if_pos (by first | decide | omega), e9, zb_s, if_pos (by first | decide | omega), e11, zb_s, if_pos b9, if_pos b11]
      by_cases y : r9 < r11
      · rw [if_pos y]
        exact ih p (l + 1) m (by first | decide | omega) (by first | decide | omega) (by first | decide | omega) (by first | decide | omega) (by first | decide | omega)
      · rw [if_neg y]
        exact ih p (l + 1) l (by first | decide | omega) (by first | decide | omega) (by first | decide | omega) (by first | decide | omega) (by first | decide | omega)
theorem L_lnO (hK : 100 ≤ K) (hR : RDW V w F B) (u0 : 0 ≤ u) (u1 : u < V) (x0 : 1000 * u ≤ x) (x1 : x < 1000 * u + B 13 w 12 u) (hs : 0 < B 13 w 21 x) : ∃ r, f_M_lineOf K w x F B = some (r, F, B) ∧ (0 ≤ r ∧ r < 24000) ∧ (0 ≤ B 13 w 28 r ∧ B 13 w 28 r ≤ 62) := by
  have hV := hR.2.1
  have hv := (rd_v hR u0 u1).1
  have he := (rd_e hR u0 u1 x0 x1).2.2.1
  obtain ⟨r, e, r0, r1⟩ := L_ln7 (K := K) hR u0 u1 x0 x1 (B 13 w 21 x).toNat K (6 * x) (-1) (by first | decide | omega) (by first | decide | omega) (by first | decide | omega) (by first | decide | omega) (by first | decide | omega)
  have p := rd_p hR u0 u1 x0 x1 (k := r - 6 * x) (by first | decide | omega) (by first | decide | omega)
  rw [show 6 * x + (r - 6 * x) = r by omega] at p
  exact ⟨r, e, (by first | decide | omega), p.1⟩
theorem L_fs2 (hR : RDW V w F B) (u0 : 0 ≤ u) (u1 : u < V) : ∀ (d n : Nat) (i : Int), i + d = B 13 w 12 u → 0 ≤ i → d < n → ∃ r, f_M_firstSounding_2 K n i w u F B = some (r, F, B) ∧ (r = -1 ∨ (1000 * u ≤ r ∧ r < 1000 * u + B 13 w 12 u ∧ 0 < B 13 w 21 r)) := by
  have w0 := hR.1
  have hV := hR.2.1
  have hv := (rd_v hR u0 u1).1
  intro d
  induction d with
  | zero =>
    intro n i hi i0 hn
    obtain ⟨p, rfl⟩ : ∃ p, n = p + 1 := ⟨n - 1, (by first | decide | omega)⟩
    rw [f_M_firstSounding_2, if_pos w0, if_pos (by first | decide | omega), if_pos (by unfold r32; omega), if_pos (by unfold r32; omega), if_pos (by first | decide | omega), f_M_firstSounding_33, if_pos w0, if_pos (by first | decide | omega), if_pos (by unfold r32; omega), if_pos (by unfold r32; omega), if_pos (by first | decide | omega), f_M_firstSounding_54]
    exact ⟨-1, rfl, Or.inl rfl⟩
  | succ d ih =>
    intro n i hi i0 hn
    obtain ⟨p, rfl⟩ : ∃ p, n = p + 1 := ⟨n - 1, (by first | decide | omega)⟩
    have he := (rd_e hR u0 u1 (x := 1000 * u + i) (by first | decide | omega) (by first | decide | omega)).2.2.1
    rw [f_M_firstSounding_2, if_pos w0, if_pos (by first | decide | omega), if_pos (by unfold r32; omega), if_pos (by unfold r32; omega), if_neg (by first | decide | omega), if_pos (by first | decide | omega), if_pos (by unfold r32; omega)]
    by_cases z : B 13 w 21 (1000 * u + i) = 0
    · rw [if_pos z]
      exact ih p (i + 1) (by first | decide | omega) (by first | decide | omega) (by first | decide | omega)
    · rw [if_neg z, f_M_firstSounding_33, if_pos w0, if_pos (by first | decide | omega), if_pos (by unfold r32; omega), if_pos (by unfold r32; omega), if_neg (by first | decide | omega), f_M_firstSounding_54]
      exact ⟨_, rfl, Or.inr ⟨(by first | decide | omega), (by first | decide | omega), (by first | decide | omega)⟩⟩
theorem L_lik {x' : Int} (w0 : 0 ≤ w ∧ w < 3) (hx : 0 ≤ x ∧ x < 4000) (hx' : 0 ≤ x' ∧ x' < 4000) (b : 0 ≤ B 13 w 21 x ∧ B 13 w 21 x ≤ 6) (b' : 0 ≤ B 13 w 21 x' ∧ B 13 w 21 x' ≤ 6) : ∃ r, f_M_isLike K w x w x' F B = some (r, F, B) ∧ ((r = 0) ∨ (r = 1 ∧ (B 13 w 21 x = 0 ↔ B 13 w 21 x' = 0))) := by
  have d1 : r32 (1 : Int) := by decide
  have d0 : r32 (0 : Int) := by decide
  unfold f_M_isLike f_M_isLike_14 f_M_isLike_28 f_M_isLike_36
  rw [if_pos w0, if_pos hx, if_pos (by unfold r32; omega)]
  by_cases z : B 13 w 21 x = 0
  · rw [if_pos z, if_pos w0, if_pos hx', if_pos (by unfold r32; omega)]
    by_cases z' : B 13 w 21 x' = 0
    · rw [if_pos z', if_pos d1, if_pos d1, if_pos rfl, if_pos (Or.inr rfl)]
      exact ⟨1, rfl, Or.inr ⟨rfl, (by first | decide | omega)⟩⟩
    · rw [if_neg z', if_pos d1, if_pos d0, if_neg (by decide), if_pos (Or.inl rfl)]
      exact ⟨0, rfl, Or.inl rfl⟩
  · rw [if_neg z, if_pos w0, if_pos hx', if_pos (by unfold r32; omega)]
    by_cases z' : B 13 w 21 x' = 0
    · rw [if_pos z', if_pos d0, if_pos d1, if_neg (by decide), if_pos (Or.inl rfl)]
      exact ⟨0, rfl, Or.inl rfl⟩
    · rw [if_neg z', if_pos d0, if_pos d0, if_pos rfl, if_pos (Or.inr rfl)]
      exact ⟨1, rfl, Or.inr ⟨rfl, (by first | decide | omega)⟩⟩
end
end
end
section
section
variable {cc : Int}
/-! ===== follows: the reference's loop ===== -/
section
variable {K : Nat} {V w u u' a c st l4 p q : Int} {F : zF} {B : zB}
theorem nu_64 {g : Int} (h : 0 ≤ g ∧ g ≤ 1000000000000) : r64 (nu g) := by
  have := FR_b (FR_r (p := g) (by first | decide | omega))
  have := (FR_r (p := g) (by first | decide | omega)).2.2.1
  unfold r64
  omega
theorem de_64 {g : Int} (h : 1 ≤ g) : r64 (de g) := by
  have := de_128 (D := g) (by first | decide | omega)
  have e : WW = 812851200 := rfl
  unfold r64
  omega
theorem L_146x {n : Nat} {l9 : Int} (hK : 812851200 < K) (w0 : 0 ≤ w ∧ w < 3) (ha : 0 ≤ a ∧ a < 4000) (hc : 0 ≤ c ∧ c < 4000) (h9 : 0 ≤ l9 ∧ l9 ≤ 4000) (hst : r32 st) (h4 : r32 l4) (hp : 0 ≤ q ∧ q ≤ p ∧ p ≤ 1000000000000) (c14 : B 13 w 14 c = nu p ∧ B 13 w 15 c = de p) (a14 : B 13 w 14 a = nu q ∧ B 13 w 15 a = de q) : ∃ r F', f_M_follows_146 K (n + 1) 0 l9 st c a w u u' l4 F B = some (r, F', B) ∧ ∀ i y k, ¬ (i = 14 ∧ y = 0 ∧ k ≤ 1) → F' i y k = F i y k := by
  rw [f_M_follows_146, if_pos (by decide), if_pos rfl, if_pos (by unfold r32; omega)]
  by_cases z : l9 = 0
  · rw [if_pos z]; exact ⟨_, _, rfl, fun _ _ _ _ => rfl⟩
  · rw [if_neg z, if_pos w0, if_pos hc, if_pos ha, c14.1, c14.2, a14.1, a14.2, L_minusR hK (FR_r (by first | decide | omega)) (FR_r (by first | decide | omega)) (by first | decide | omega) (by first | decide | omega), zb_s, if_pos h4]
    have fn : ∀ i y k, ¬ (i = 14 ∧ y = 0 ∧ k ≤ 1) → fr F (p - q) i y k = F i y k := fun i y k n => fr_n n
    unfold f_M_follows_409
    by_cases y0 : l4 = 0
    · rw [if_pos y0]; exact ⟨_, _, rfl, fn⟩
    · rw [if_neg y0]
      by_cases y1 : l4 = 1
      · rw [if_pos y1, if_pos hst]; exact ⟨_, _, rfl, fn⟩
      · rw [if_neg y1]
        by_cases y2 : l4 = 2
        · rw [if_pos y2]; exact ⟨_, _, rfl, fn⟩
        · rw [if_neg y2]; exact ⟨_, _, rfl, fn⟩
theorem L_146 (hK : 812851200 < K) (hR : RDW V w F B) (u0 : 0 ≤ u) (u1 : u < V) (v0 : 0 ≤ u') (v1 : u' < V) (ha : 1000 * u ≤ a ∧ a < 1000 * u + B 13 w 12 u) (hc : 1000 * u' ≤ c ∧ c < 1000 * u' + B 13 w 12 u') (hst : r32 st) (h4 : r32 l4) (hp : 0 ≤ q ∧ q ≤ p ∧ p ≤ 1000000000000) (c14 : B 13 w 14 c = nu p ∧ B 13 w 15 c = de p) (a14 : B 13 w 14 a = nu q ∧ B 13 w 15 a = de q) : ∀ (d n : Nat) (l9 : Int), a + l9 + d = 1000 * u + B 13 w 12 u → 0 ≤ l9 → d + 1 < n → ∃ r F', f_M_follows_146 K n 1 l9 st c a w u u' l4 F B = some (r, F', B) ∧ ∀ i y k, ¬ (i = 14 ∧ y = 0 ∧ k ≤ 1) → F' i y k = F i y k := by
  have w0 := hR.1
  have hV := hR.2.1
  have hv := (rd_v hR u0 u1).1
  have hv' := (rd_v hR v0 v1).1
  have x0 : ∀ (m : Nat) (l9 : Int), 0 < m → 0 ≤ l9 → l9 ≤ 200 → ∃ r F', f_M_follows_146 K m 0 l9 st c a w u u' l4 F B = some (r, F', B) ∧ ∀ i y k, ¬ (i = 14 ∧ y = 0 ∧ k ≤ 1) → F' i y k = F i y k := fun m l9 hm a0 a1 => by
    obtain ⟨p', rfl⟩ : ∃ p', m = p' + 1 := ⟨m - 1, (by first | decide | omega)⟩
    exact L_146x hK w0 (by first | decide | omega) (by first | decide | omega) (by first | decide | omega) hst h4 hp c14 a14
  have o259 : ∀ (m : Nat) (l12 l11 l9 : Int), 0 < m → 0 ≤ l9 → l9 ≤ 200 → ∃ r F', f_M_follows_259 (f_M_follows_146 K m) K l12 l11 l9 st c a w u u' l4 F B = some (r, F', B) ∧ ∀ i y k, ¬ (i = 14 ∧ y = 0 ∧ k ≤ 1) → F' i y k = F i y k := fun m l12 l11 l9 hm a0 a1 => by
    unfold f_M_follows_259 f_M_follows_260 f_M_follows_314 f_M_follows_315 f_M_follows_325
    rw [if_pos (by decide), if_pos rfl, if_pos (by decide), if_pos rfl]
    exact x0 m l9 hm a0 a1
  intro d
  induction d with
  | zero =>
    intro n l9 hl l0 hn
    obtain ⟨p', rfl⟩ : ∃ p', n = p' + 1 := ⟨n - 1, (by first | decide | omega)⟩
    rw [f_M_follows_146, if_pos (by decide), if_neg (by decide), if_pos w0, if_pos (by first | decide | omega), if_pos (by unfold r32; omega), if_pos (by unfold r32; omega), if_pos (by first | decide | omega)]
    exact o259 p' _ _ l9 (by first | decide | omega) l0 (by first | decide | omega)
  | succ d ih =>
    intro n l9 hl l0 hn
    obtain ⟨p', rfl⟩ : ∃ p', n = p' + 1 := ⟨n - 1, (by first | decide | omega)⟩
    rw [f_M_follows_146, if_pos (by decide), if_neg (by decide), if_pos w0, if_pos (by first | decide | omega), if_pos (by unfold r32; omega), if_pos (by unfold r32; omega), if_neg (by first | decide | omega), if_pos (by first | decide | omega), if_pos (by unfold r32; omega), if_pos (by unfold r32; omega)]
    by_cases z : 1000 * u' + B 13 w 12 u' ≤ c + l9
    · rw [if_pos z]
      exact o259 p' _ _ l9 (by first | decide | omega) l0 (by first | decide | omega)
    · have e1 := (rd_e hR u0 u1 (x := a + l9) (by first | decide | omega) (by first | decide | omega)).2.2.1
      have e2 := (rd_e hR v0 v1 (x := c + l9) (by first | decide | omega) (by first | decide | omega)).2.2.1
      obtain ⟨g1, g2, gg, g3, g4, g5, g6⟩ := ((hR.2.2.2.2.2.2 u u0 u1).2.1 (a + l9) (by first | decide | omega) (by first | decide | omega)).2.2
      obtain ⟨k1, k2, kk, k3, k4, k5, k6⟩ := ((hR.2.2.2.2.2.2 u' v0 v1).2.1 (c + l9) (by first | decide | omega) (by first | decide | omega)).2.2
      obtain ⟨r, er, rl⟩ := L_lik (K := K) (F := F) (x := a + l9) (x' := c + l9) w0 (by first | decide | omega) (by first | decide | omega) e1 e2
      rw [if_neg z, er, zb_s, if_pos (by unfold r32; omega)]
      by_cases y : r = 0
      · rw [if_pos y]
        exact o259 p' _ _ l9 (by first | decide | omega) l0 (by first | decide | omega)
      · have lk : B 13 w 21 (a + l9) = 0 ↔ B 13 w 21 (c + l9) = 0 := by
          rcases rl with h | h
          · exact absurd h y
          · exact h.2
        have q5 : r64 (B 13 w 16 (a + l9)) := by rw [g5]; exact nu_64 (by first | decide | omega)
        have q6 : r64 (B 13 w 17 (a + l9)) := by rw [g6]; exact de_64 (by first | decide | omega)
        have q7 : r64 (B 13 w 16 (c + l9)) := by rw [k5]; exact nu_64 (by first | decide | omega)
        have q8 : r64 (B 13 w 17 (c + l9)) := by rw [k6]; exact de_64 (by first | decide | omega)
        rw [if_neg y, if_pos (by first | decide | omega), if_pos (by first | decide | omega), if_pos q5, if_pos q7]
        by_cases y1 : zcmp (B 13 w 16 (a + l9)) (B 13 w 16 (c + l9)) = 0
        · rw [if_pos y1, if_pos q6, if_pos q8]
          by_cases y2 : zcmp (B 13 w 17 (a + l9)) (B 13 w 17 (c + l9)) = 0
          · rw [if_pos y2]
            have nxt : ∃ r F', f_M_follows_310 (f_M_follows_146 K p') K l9 st c a w u u' l4 F B = some (r, F', B) ∧ ∀ i y k, ¬ (i = 14 ∧ y = 0 ∧ k ≤ 1) → F' i y k = F i y k := by
              unfold f_M_follows_310 f_M_follows_315 f_M_follows_325
              rw [if_pos (by decide), if_neg (by decide)]
              exact ih p' (l9 + 1) (by first | decide | omega) (by first | decide | omega) (by first | decide | omega)
            unfold f_M_follows_260
            rw [if_pos (by decide), if_neg (by decide), if_pos w0, if_pos (by first | decide | omega), if_pos (by unfold r32; omega)]
            by_cases y3 : B 13 w 21 (a + l9) = 0
            · rw [if_pos y3]; exact nxt
            · have y4 : ¬ B 13 w 21 (c + l9) = 0 := fun h => y3 (lk.mpr h)
              obtain ⟨r1, f1, b1, d1⟩ := L_lnO (K := K) (by first | decide | omega) hR v0 v1 (x := c + l9) (by first | decide | omega) (by first | decide | omega) (by first | decide | omega)
              obtain ⟨r2, f2, b2, d2⟩ := L_lnO (K := K) (by first | decide | omega) hR u0 u1 (x := a + l9) (by first | decide | omega) (by first | decide | omega) (by first | decide | omega)
              rw [if_neg y3, f1, zb_s, if_pos b1, f2, zb_s, if_pos b2, if_pos (by unfold r32; omega), if_pos hst]
              by_cases y5 : B 13 w 28 r1 - B 13 w 28 r2 = st
              · rw [if_pos y5]; exact nxt
              · rw [if_neg y5]
                have := o259 p' 0 0 l9 (by first | decide | omega) l0 (by first | decide | omega)
                unfold f_M_follows_259 f_M_follows_260 at this
                rw [if_pos (by decide), if_pos rfl] at this
                exact this
          · rw [if_neg y2]
            exact o259 p' _ _ l9 (by first | decide | omega) l0 (by first | decide | omega)
        · rw [if_neg y1]
          exact o259 p' _ _ l9 (by first | decide | omega) l0 (by first | decide | omega)
end
end
end
section
section
variable {cc : Int}
/-! ===== the call of follows ===== -/
theorem IV_m {Km : Nat} {K : zK} {F Fm Fm' : zF} {B Bm : zB} (h : IV cc Km K F B Fm Bm) (g : ∀ i y k, ¬ (i = 14 ∧ y = 0 ∧ k ≤ 1) → Fm' i y k = Fm i y k) : IV cc Km K F B Fm' Bm := by
  obtain ⟨p, p0, p1, w, w0, w1, hE, hW, hO, h7, hX, hK⟩ := h
  have hT' : IT F B Fm' Bm := by
    obtain ⟨t1, t2, t3, t4, t5⟩ := hE.1.2.2.2.1
    exact ⟨by rw [g 14 0 3 (by first | decide | omega)]; exact t1, t2, t3, t4, t5⟩
  refine ⟨p, p0, p1, w, w0, w1, IE_f hE rfl (fun _ _ => rfl) (Int.le_refl _) (fun _ _ _ _ _ _ _ _ => rfl) (fun _ _ _ _ _ _ _ _ _ => rfl) (fun i k => ⟨fun _ => g 13 i k (by first | decide | omega), g 14 0 6 (by first | decide | omega)⟩) ⟨fun _ _ _ _ => rfl, fun _ _ _ => rfl⟩ hT', ⟨by rw [g 14 0 71 (by first | decide | omega)]; exact hW.1, hW.2⟩, IOp_f hO rfl rfl (fun _ _ => rfl) (fun _ _ _ => rfl) (g 14 0 72 (by first | decide | omega)) (fun _ _ _ => rfl), h7, hX, hK⟩
theorem L_folR {Km : Nat} {a1 a2 a3 a4 : Int} (h1 : r32 a1) (h2 : r32 a2) (h3 : r32 a3) (h4 : r32 a4) {K : zK} {F Fm : zF} {B Bm : zB} (h : IV cc Km K F B Fm Bm) : ∃ r F', f_M_follows Km a1 a2 a3 a4 Fm Bm = some (r, F', Bm) ∧ ∀ i y k, ¬ (i = 14 ∧ y = 0 ∧ k ≤ 1) → F' i y k = Fm i y k := by
  have hKm := (IV_k h).2.1
  have d1 : r32 (1 : Int) := by decide
  have d0 : r32 (0 : Int) := by decide
  obtain ⟨x, y, e, e1, e2, e3, e4⟩ := prt h h1 h2
  obtain ⟨x', y', e', e1', e2', e3', e4'⟩ := prt h h1 h3
  have yy : y' = y := by
    rw [e2] at e2'
    injection e2' with q
    injection q with q
    exact q.symm
  rw [yy] at e3' e4'
  unfold f_M_follows f_M_follows_41 f_M_follows_109
  rw [e2, zb_s, e3, zb_s]
  rcases e4 with ⟨_, e0⟩ | ⟨e0, x0, y0, z0, q, V, vV, ex, hP, _⟩
  · rw [e0, if_pos d0, if_pos rfl]
    exact ⟨_, _, rfl, fun _ _ _ _ => rfl⟩
  rw [e0, if_pos d1, if_neg (by decide), e3', zb_s]
  rcases e4' with ⟨_, e0'⟩ | ⟨e0', x0', y0', z0', q', V', vV', ex', hP', _⟩
  · rw [e0', if_pos d0, if_pos rfl]
    exact ⟨_, _, rfl, fun _ _ _ _ => rfl⟩
  rw [e0', if_pos d1, if_neg (by decide), if_pos h2, if_pos h3]
  have hR := PK_r hP
  have eV : V' = V := by rw [← hP'.1.2.2.2.2, ← hP.1.2.2.2.2]
  rw [eV] at vV'
  by_cases c1 : a2 = a3
  · rw [if_pos c1]; exact ⟨_, _, rfl, fun _ _ _ _ => rfl⟩
  rw [if_neg c1, if_pos h4]
  by_cases c2 : a4 < 0
  · rw [if_pos c2]; exact ⟨_, _, rfl, fun _ _ _ _ => rfl⟩
  rw [if_neg c2]
  by_cases c3' : ¬ a4 ≤ 3
  · rw [if_neg c3']; exact ⟨_, _, rfl, fun _ _ _ _ => rfl⟩
  have c3 : a4 ≤ 3 := by omega
  have v1 := (rd_v hR z0.1 vV).1
  have v2 := (rd_v hR z0'.1 vV').1
  obtain ⟨r, er, hr⟩ := L_fs2 (K := Km) hR z0.1 vV (Bm 13 y 12 a2).toNat Km 0 (by first | decide | omega) (by first | decide | omega) (by first | decide | omega)
  obtain ⟨s, es, hs⟩ := L_fs2 (K := Km) hR z0'.1 vV' (Bm 13 y 12 a3).toNat Km 0 (by first | decide | omega) (by first | decide | omega) (by first | decide | omega)
  have er' : f_M_firstSounding Km y a2 Fm Bm = some (r, Fm, Bm) := er
  have es' : f_M_firstSounding Km y a3 Fm Bm = some (s, Fm, Bm) := es
  rw [if_pos c3, if_pos y0, er', zb_s, es', zb_s, if_pos (by unfold r32; omega)]
  by_cases c4 : r < 0
  · rw [if_pos c4]; exact ⟨_, _, rfl, fun _ _ _ _ => rfl⟩
  rw [if_neg c4, if_pos (by unfold r32; omega)]
  by_cases c5 : s < 0
  · rw [if_pos c5]; exact ⟨_, _, rfl, fun _ _ _ _ => rfl⟩
  obtain ⟨r1, r2, r3⟩ : 1000 * a2 ≤ r ∧ r < 1000 * a2 + Bm 13 y 12 a2 ∧ 0 < Bm 13 y 21 r := by omega
  obtain ⟨s1, s2, s3⟩ : 1000 * a3 ≤ s ∧ s < 1000 * a3 + Bm 13 y 12 a3 ∧ 0 < Bm 13 y 21 s := by omega
  obtain ⟨g1, g2, gg, g3, g4, _⟩ := ((hR.2.2.2.2.2.2 a2 z0.1 vV).2.1 r r1 r2).2.2
  obtain ⟨k1, k2, kk, k3, k4, _⟩ := ((hR.2.2.2.2.2.2 a3 z0'.1 vV').2.1 s s1 s2).2.2
  rw [if_neg c5, if_pos (by first | decide | omega), if_pos (by first | decide | omega), k3, k4, g3, g4, L_cmpR (by first | decide | omega) (FR_r (by first | decide | omega)) (FR_r (by first | decide | omega)) (by first | decide | omega) (by first | decide | omega), zb_s]
  by_cases c6 : g1 < k1
  · have ez : (if k1 < g1 then (-1 : Int) else if k1 = g1 then 0 else 1) = 1 := by rw [if_neg (by first | decide | omega), if_neg (by first | decide | omega)]
    rw [ez, if_pos d1, if_pos (by decide)]
    obtain ⟨t1, f1, b1, m1⟩ := L_lnO (K := Km) (by first | decide | omega) hR z0'.1 vV' s1 s2 s3
    obtain ⟨t2, f2, b2, m2⟩ := L_lnO (K := Km) (by first | decide | omega) hR z0.1 vV r1 r2 r3
    rw [f1, zb_s, if_pos b1, f2, zb_s, if_pos b2]
    exact L_146 (by first | decide | omega) hR z0.1 vV z0'.1 vV' ⟨r1, r2⟩ ⟨s1, s2⟩ (by unfold r32; omega) h4 (p := k1) (q := g1) (by first | decide | omega) ⟨k3, k4⟩ ⟨g3, g4⟩ (1000 * a2 + Bm 13 y 12 a2 - r).toNat Km 0 (by first | decide | omega) (by first | decide | omega) (by first | decide | omega)
  · have rr : ∃ z, (if k1 < g1 then (-1 : Int) else if k1 = g1 then 0 else 1) = z ∧ (z = -1 ∨ z = 0) := by
      by_cases c7 : k1 < g1
      · rw [if_pos c7]; exact ⟨-1, rfl, Or.inl rfl⟩
      · rw [if_neg c7, if_pos (by first | decide | omega)]; exact ⟨0, rfl, Or.inr rfl⟩
    obtain ⟨z, ez, hz⟩ := rr
    rw [ez, if_pos (by unfold r32; omega), if_neg (by first | decide | omega)]
    exact ⟨_, _, rfl, fun _ _ _ _ => rfl⟩
theorem p_follows {Km : Nat} (a1 a2 a3 a4 : Int) (h1 : r32 a1) (h2 : r32 a2) (h3 : r32 a3) (h4 : r32 a4) {K : zK} {F Fm : zF} {B Bm : zB} (h : IV cc Km K F B Fm Bm) : ∃ r1 F1 B1 r2 F2 B2, f_S_follows K 0 a1 a2 a3 a4 F B = some (r1, F1, B1) ∧ f_M_follows Km a1 a2 a3 a4 Fm Bm = some (r2, F2, B2) ∧ IV cc Km K F1 B1 F2 B2 := by
  obtain ⟨r, e⟩ := C_folR h1 h2 h3 h4 h
  obtain ⟨r', F', e', g⟩ := L_folR h1 h2 h3 h4 h
  exact ⟨r, F, B, r', F', Bm, e, e', IV_m h g⟩
end
end
section
section
variable {cc : Int}
/-! ===== shape: the class's side ===== -/
section
variable {K : zK} {F : zF} {B : zB}
theorem zldv_R64 (a b : Int) : r64 (zldv a b) := toL_R _
theorem C_gcdF {x y : Int} (hK : 300 ≤ K.1) (hx : 0 ≤ x ∧ x ≤ 1000000000000) (hy : 0 ≤ y ∧ y ≤ 1000000000000) : ∃ r, f_S_gcd K x y F B = some (r, F, B) ∧ 0 ≤ r ∧ r < 9223372036854775808 := by
  obtain ⟨r, e, r0, r1⟩ := C_gcdR (K := K) (F := F) (B := B) 200 K.1 0 x y (by first | decide | omega) (by first | decide | omega) (by first | decide | omega) (by first | decide | omega) (by first | decide | omega) (by first | decide | omega) (by first | decide | omega)
  exact ⟨r, e, r0, r1⟩
theorem zmax_1 {r : Int} (h : 0 ≤ r ∧ r < 9223372036854775808) : ¬ lI (zmax r 1) = 0 := by
  unfold zmax
  by_cases z : r < 1
  · rw [if_pos z]; exact lI_n0 (by first | decide | omega) (by unfold r64; omega)
  · rw [if_neg z]; exact lI_n0 (by first | decide | omega) (by unfold r64; omega)
def EKl (K : zK) (e : Int) (F : zF) : Prop := (0 ≤ e ∧ e < K.2 1) ∧ (0 ≤ F 1 e 1 ∧ F 1 e 1 ≤ 1000000000000)
theorem C_smF {a b c d : Int} (hK : 300 ≤ K.1) (ha : EKl K a F) (hb : EKl K b F) (hc : EKl K c F) (hd : EKl K d F) : ∃ r, f_Part_sameFraction K a b c d F B = some (r, F, B) ∧ (r = 0 ∨ r = 1) := by
  obtain ⟨r, e, r0, r1⟩ := C_gcdF (F := F) (B := B) hK ha.2 hb.2
  obtain ⟨s, e', s0, s1⟩ := C_gcdF (F := F) (B := B) hK hc.2 hd.2
  unfold f_Part_sameFraction f_Part_sameFraction_74 f_Part_sameFraction_75
  rw [if_pos ha.1, if_pos hb.1, e, zb_s, if_pos (by unfold r64; omega), if_pos hc.1, if_pos hd.1, e', zb_s, if_pos (by unfold r64; omega), if_pos (zmax_1 ⟨r0, r1⟩), if_pos (zmax_1 ⟨s0, s1⟩), if_pos (zldv_R64 _ _), if_pos (zldv_R64 _ _)]
  have f0 : ∃ r, (if ((0 : Int) = 0 ∨ (0 : Int) = 1) then some ((0 : Int), F, B) else none) = some (r, F, B) ∧ (r = 0 ∨ r = 1) := ⟨0, by rw [if_pos (Or.inl rfl)], Or.inl rfl⟩
  by_cases z : zcmp (zldv (F 1 a 1) (zmax r 1)) (zldv (F 1 c 1) (zmax s 1)) = 0
  · rw [if_pos z, if_pos (zldv_R64 _ _), if_pos (zldv_R64 _ _)]
    by_cases y : zcmp (zldv (F 1 b 1) (zmax r 1)) (zldv (F 1 d 1) (zmax s 1)) = 0
    · rw [if_pos y, if_pos (Or.inr rfl)]; exact ⟨1, rfl, Or.inr rfl⟩
    · rw [if_neg y]; exact f0
  · rw [if_neg z]; exact f0
def EKs (K : zK) (e : Int) (F : zF) (B : zB) : Prop := EKc K e F B ∧ (0 ≤ F 1 e 1 ∧ F 1 e 1 ≤ 1000000000000)
theorem C_h81 {x y m m' a c n l6 l7 l8 l9 l10 : Int} (hK : 300 ≤ K.1) (hx : PKc K x m F B) (hy : PKc K y m' F B) (ha : 0 ≤ a ∧ a + n ≤ m) (hc : 0 ≤ c ∧ c + n ≤ m') (hn : 0 ≤ n) (h6 : r32 l6) (h7 : r32 l7) (h8 : r32 l8) (h9 : EKl K l9 F) (h10 : EKl K l10 F) : ∀ (d N : Nat) (i l12 l11 : Int), i + d = n → 0 ≤ i → d < N → (l12 < 0 ∨ EKc K l12 F B) → (l11 < 0 ∨ EKc K l11 F B) → ∃ r, f_Part_hasShape_81 K N i l12 l11 l10 l9 l8 l7 l6 x a y c n F B = some (r, F, B) ∧ (r = 0 ∨ r = 1) := by
  obtain ⟨h1, h2, h3, h4⟩ := hx
  obtain ⟨g1, g2, g3, g4⟩ := hy
  intro d
  induction d with
  | zero =>
    intro N i l12 l11 hi i0 hN q12 q11
    obtain ⟨p, rfl⟩ : ∃ p, N = p + 1 := ⟨N - 1, (by first | decide | omega)⟩
    rw [f_Part_hasShape_81, if_pos (by unfold r32; omega), if_pos (by unfold r32; omega), if_pos (by first | decide | omega)]
    exact ⟨1, rfl, Or.inr rfl⟩
  | succ d ih =>
    intro N i l12 l11 hi i0 hN q12 q11
    obtain ⟨p, rfl⟩ : ∃ p, N = p + 1 := ⟨N - 1, (by first | decide | omega)⟩
    have nxt : ∀ l12 l11 : Int, (l12 < 0 ∨ EKc K l12 F B) → (l11 < 0 ∨ EKc K l11 F B) → ∃ r, f_Part_hasShape_268 (f_Part_hasShape_81 K p) K i l12 l11 l10 l9 l8 l7 l6 x a y c n F B = some (r, F, B) ∧ (r = 0 ∨ r = 1) := fun u v hu hv => ih p (i + 1) u v (by first | decide | omega) (by first | decide | omega) (by first | decide | omega) hu hv
    obtain ⟨s1, s2, s3⟩ := g4 (c + i) (by first | decide | omega) (by first | decide | omega)
    rw [f_Part_hasShape_81, if_pos (by unfold r32; omega), if_pos (by unfold r32; omega), if_neg (by first | decide | omega), if_pos g1, if_pos (by first | decide | omega), if_pos h1, if_pos h7]
    have key : ∀ t : Int, 0 ≤ t → t < m → ∃ r, f_Part_hasShape_124 (f_Part_hasShape_81 K p) K (B 4 y 5 (c + i)) i l12 l11 l10 l9 l8 l7 l6 x a y c n x t F B = some (r, F, B) ∧ (r = 0 ∨ r = 1) := fun t t0 t1 => by
      obtain ⟨q1, q2, q3⟩ := h4 t t0 t1
      obtain ⟨e, ey⟩ : ∃ e, e = B 4 y 5 (c + i) := ⟨_, rfl⟩
      obtain ⟨f, ex⟩ : ∃ f, f = B 4 x 5 t := ⟨_, rfl⟩
      rw [← ey] at s1 s2 s3 ⊢
      rw [← ex] at q1 q2 q3
      have k208 : ∀ l12 l11 : Int, (l12 < 0 ∨ EKc K l12 F B) → (l11 < 0 ∨ EKc K l11 F B) → ∃ r, f_Part_hasShape_208 (f_Part_hasShape_81 K p) K f e i l12 l11 l10 l9 l8 l7 l6 x a y c n F B = some (r, F, B) ∧ (r = 0 ∨ r = 1) := fun u v hu hv => by
        unfold f_Part_hasShape_208
        by_cases zu : u < 0
        · rw [if_pos zu]; exact nxt u v hu hv
        by_cases zv : v < 0
        · rw [if_neg zu, if_pos zv]; exact nxt u v hu hv
        have hu' := hu.resolve_left zu
        have hv' := hv.resolve_left zv
        obtain ⟨r, er, r01⟩ := C_isR s1
        rw [if_neg zu, if_neg zv, if_pos s1.1, er, zb_s, if_pos (by unfold r32; omega)]
        by_cases zr : r = 0
        · obtain ⟨t1, et1, b1⟩ := C_tpS (by first | decide | omega) s1
          obtain ⟨t2, et2, b2⟩ := C_tpS (by first | decide | omega) hv'
          obtain ⟨t3, et3, b3⟩ := C_tpS (by first | decide | omega) q1
          obtain ⟨t4, et4, b4⟩ := C_tpS (by first | decide | omega) hu'
          rw [if_pos zr, et1, zb_s, if_pos hv'.1, et2, zb_s, if_pos q1.1, et3, zb_s, if_pos hu'.1, et4, zb_s, if_pos h6]
          have k263 : ∀ z : Int, r32 z → ∃ r, f_Part_hasShape_263 (f_Part_hasShape_81 K p) K i u v l10 l9 l8 l7 l6 x a y c n (t3 - t4) z F B = some (r, F, B) ∧ (r = 0 ∨ r = 1) := fun z hz => by
            unfold f_Part_hasShape_263
            rw [if_pos (by unfold r32; omega), if_pos hz]
            by_cases zz : t3 - t4 = z
            · rw [if_pos zz]; exact nxt u v hu hv
            · rw [if_neg zz]; exact ⟨0, rfl, Or.inl rfl⟩
          by_cases z6 : l6 = 0
          · rw [if_pos z6]; exact k263 _ (by unfold r32; omega)
          · rw [if_neg z6]; exact k263 _ (by unfold r32; omega)
        · rw [if_neg zr]; exact nxt u v hu hv
      have k165 : ∀ s : Int, (s = 0 ∨ s = 1) → ∃ r, f_Part_hasShape_165 (f_Part_hasShape_81 K p) K f e i l12 l11 l10 l9 l8 l7 l6 x a y c n s F B = some (r, F, B) ∧ (r = 0 ∨ r = 1) := fun s hs => by
        unfold f_Part_hasShape_165 f_Part_hasShape_185
        rw [if_pos (by unfold r32; omega)]
        by_cases zs : s = 0
        · rw [if_pos zs]; exact ⟨0, rfl, Or.inl rfl⟩
        obtain ⟨r, er, r01⟩ := C_isR s1
        obtain ⟨r', er', r01'⟩ := C_isR q1
        rw [if_neg zs, if_pos s1.1, er, zb_s, if_pos q1.1, er', zb_s, if_pos (by unfold r32; omega), if_pos (by unfold r32; omega)]
        by_cases zr : r = r'
        · rw [if_pos zr]
          by_cases z12 : l12 < 0
          · rw [if_pos z12, er, zb_s, if_pos (by unfold r32; omega)]
            by_cases z0 : r = 0
            · rw [if_pos z0]; exact k208 f e (Or.inr q1) (Or.inr s1)
            · rw [if_neg z0]; exact k208 l12 l11 q12 q11
          · rw [if_neg z12]; exact k208 l12 l11 q12 q11
        · rw [if_neg zr]; exact ⟨0, rfl, Or.inl rfl⟩
      unfold f_Part_hasShape_124
      rw [if_pos h1, if_pos (by first | decide | omega), if_pos h8, ← ex]
      by_cases z8 : l8 = 0
      · rw [if_pos z8, if_pos s1.1, if_pos q1.1, if_pos (by unfold r64; omega), if_pos (by unfold r64; omega)]
        by_cases zc : zcmp (F 1 e 1) (F 1 f 1) = 0
        · rw [if_pos zc]; exact k165 1 (Or.inr rfl)
        · rw [if_neg zc]; exact k165 0 (Or.inl rfl)
      · obtain ⟨r, er, r01⟩ := C_smF (B := B) hK h9 h10 (c := e) (d := f) ⟨s1.1, s3⟩ ⟨q1.1, q3⟩
        rw [if_neg z8, if_pos h9.1, if_pos h10.1, if_pos s1.1, if_pos q1.1, er, zb_s]
        exact k165 r r01
    by_cases z7 : l7 = 0
    · rw [if_pos z7]; exact key _ (by first | decide | omega) (by first | decide | omega)
    · rw [if_neg z7]; exact key _ (by first | decide | omega) (by first | decide | omega)
theorem C_hasS {x y m m' a c n l5 : Int} (hK : 300 ≤ K.1) (hx : PKc K x m F B) (hy : PKc K y m' F B) (ha : 0 ≤ a ∧ a + n ≤ m) (hc : 0 ≤ c ∧ c + n ≤ m') (hn : 2 ≤ n ∧ n ≤ 20) : ∃ r, f_Part_hasShape K x a y c n l5 F B = some (r, F, B) ∧ (r = 0 ∨ r = 1) := by
  have hm := hx.2.2.1
  have hm' := hy.2.2.1
  have d1 : r32 (1 : Int) := by decide
  have d0 : r32 (0 : Int) := by decide
  have k69 : ∀ (l6 l7 l8 t : Int), r32 l6 → r32 l7 → r32 l8 → 0 ≤ t → t < m → ∃ r, f_Part_hasShape_69 K (B 4 y 5 c) l8 l7 l6 x a y c n x t F B = some (r, F, B) ∧ (r = 0 ∨ r = 1) := fun l6 l7 l8 t h6 h7 h8 t0 t1 => by
    unfold f_Part_hasShape_69
    rw [if_pos hx.1, if_pos (by first | decide | omega)]
    have q := hx.2.2.2 t t0 t1
    have s := hy.2.2.2 c (by first | decide | omega) (by first | decide | omega)
    exact C_h81 hK hx hy ha hc (by first | decide | omega) h6 h7 h8 ⟨s.1.1, s.2.2⟩ ⟨q.1.1, q.2.2⟩ n.toNat K.1 0 (-1) (-1) (by first | decide | omega) (by first | decide | omega) (by first | decide | omega) (Or.inl (by first | decide | omega)) (Or.inl (by first | decide | omega))
  have k40 : ∀ (l6 l7 l8 : Int), r32 l6 → r32 l7 → r32 l8 → ∃ r, f_Part_hasShape_40 K l7 l6 x a y c n l8 F B = some (r, F, B) ∧ (r = 0 ∨ r = 1) := fun l6 l7 l8 h6 h7 h8 => by
    unfold f_Part_hasShape_40
    rw [if_pos hy.1, if_pos (by first | decide | omega), if_pos hx.1, if_pos h7]
    by_cases z : l7 = 0
    · rw [if_pos z]; exact k69 _ _ _ _ h6 h7 h8 (by first | decide | omega) (by first | decide | omega)
    · rw [if_neg z]; exact k69 _ _ _ _ h6 h7 h8 (by first | decide | omega) (by first | decide | omega)
  have k26 : ∀ (l6 l7 : Int), r32 l6 → r32 l7 → ∃ r, f_Part_hasShape_26 K l6 x a y c n l5 l7 F B = some (r, F, B) ∧ (r = 0 ∨ r = 1) := fun l6 l7 h6 h7 => by
    unfold f_Part_hasShape_26
    rw [if_pos (zand_R _ _)]
    by_cases z : zand l5 4 = 0
    · rw [if_pos z]; exact k40 _ _ _ h6 h7 d0
    · rw [if_neg z]; exact k40 _ _ _ h6 h7 d1
  have k12 : ∀ (l6 : Int), r32 l6 → ∃ r, f_Part_hasShape_12 K x a y c n l5 l6 F B = some (r, F, B) ∧ (r = 0 ∨ r = 1) := fun l6 h6 => by
    unfold f_Part_hasShape_12
    rw [if_pos (zand_R _ _)]
    by_cases z : zand l5 2 = 0
    · rw [if_pos z]; exact k26 _ _ h6 d0
    · rw [if_neg z]; exact k26 _ _ h6 d1
  unfold f_Part_hasShape
  rw [if_pos (zand_R _ _)]
  by_cases z : zand l5 1 = 0
  · rw [if_pos z]; exact k12 _ d0
  · rw [if_neg z]; exact k12 _ d1
theorem C_s95 {x y m m' c n l7 : Int} (hK : 60000 ≤ K.1) (hx : PKc K x m F B) (hy : PKc K y m' F B) (hc : 0 ≤ c ∧ c + n ≤ m') (hn : 2 ≤ n ∧ n ≤ 20) : ∀ (d N : Nat) (i l12 : Int), i + d = m + 1 → 0 ≤ i → d < N → (0 ≤ l12 ∧ l12 < 2147483648) → zR (f_S_shape_95 K N i l12 x y c n l7 F B) F B := by
  have hm := hx.2.2.1
  intro d
  induction d with
  | zero =>
    intro N i l12 hi i0 hN q
    obtain ⟨p, rfl⟩ : ∃ p, N = p + 1 := ⟨N - 1, (by first | decide | omega)⟩
    rw [f_S_shape_95, if_pos hx.1, if_pos (by unfold r32; omega), hx.2.1, if_pos (by unfold r32; omega), if_pos (by first | decide | omega)]
    exact zR_s
  | succ d ih =>
    intro N i l12 hi i0 hN q
    obtain ⟨p, rfl⟩ : ∃ p, N = p + 1 := ⟨N - 1, (by first | decide | omega)⟩
    rw [f_S_shape_95, if_pos hx.1, if_pos (by unfold r32; omega), hx.2.1, if_pos (by unfold r32; omega)]
    by_cases z : m - n < i
    · rw [if_pos z]; exact zR_s
    obtain ⟨r, er, r01⟩ := C_hasS (l5 := l7) (by first | decide | omega) hx hy (a := i) (by first | decide | omega) hc hn
    rw [if_neg z, if_pos hy.1, er, zb_s, if_pos (by unfold r32; omega)]
    unfold f_S_shape_136
    by_cases zr : r = 0
    · rw [if_pos zr]; exact ih p _ _ (by first | decide | omega) (by first | decide | omega) (by first | decide | omega) q
    · rw [if_neg zr, if_pos (by unfold r32; omega)]
      by_cases z12 : l12 = 0
      · rw [if_pos z12]; exact zR_s
      · rw [if_neg z12]; exact ih p _ _ (by first | decide | omega) (by first | decide | omega) (by first | decide | omega) (by first | decide | omega)
end
theorem C_shaR {Km : Nat} {a1 a2 a3 a4 a5 a6 a7 a8 : Int} (h1 : r32 a1) (h2 : r32 a2) (h3 : r32 a3) (h4 : r32 a4) (h5 : r32 a5) (h6 : r32 a6) (h7 : r32 a7) (h8 : r32 a8) {K : zK} {F Fm : zF} {B Bm : zB} (h : IV cc Km K F B Fm Bm) : zR (f_S_shape K 0 a1 a2 a3 a4 a5 a6 a7 a8 F B) F B := by
  have hK := (IV_k h).1
  obtain ⟨x, y, e, e1, e2, e3, e4⟩ := prt h h1 h2
  obtain ⟨x', y', e', e1', e2', e3', e4'⟩ := prt h h5 h6
  have o58 : ∀ s x' x : Int, zR (f_S_shape_58 K x' x a3 a4 a7 a8 1 F B) F B := fun s x' x => by
    unfold f_S_shape_58 f_S_shape_86
    rw [if_pos (by decide), if_neg (by decide)]
    exact zR_s
  unfold f_S_shape f_S_shape_53
  rw [if_pos (IV_12 h), e1, zb_s, e1', zb_s]
  rcases e4 with ⟨x0, _⟩ | ⟨_, x0, y0, z0, q, V, vV, ex, hP, _⟩
  · exact zR_i (fun _ => o58 0 _ _) (fun a => absurd x0 a)
  rcases e4' with ⟨x0', _⟩ | ⟨_, x0', y0', z0', q', V', vV', ex', hP', _⟩
  · exact zR_i (fun _ => o58 0 _ _) (fun _ => zR_i (fun _ => o58 0 _ _) (fun a => absurd x0' a))
  obtain ⟨m, pk⟩ := PKc_v h hP z0.1 vV ex
  obtain ⟨m', pk'⟩ := PKc_v h hP' z0'.1 vV' ex'
  have hm := pk.2.2.1
  have hm' := pk'.2.2.1
  refine zR_i (fun _ => o58 0 _ _) (fun _ => zR_i (fun _ => o58 0 _ _) (fun _ => zR_g h4 (zR_i (fun _ => o58 0 _ _) (fun l2 => zR_i (fun _ => o58 0 _ _) (fun l20 => zR_g h7 (zR_i (fun _ => o58 0 _ _) (fun _ => zR_i (fun _ => ?_) (fun _ => o58 0 _ _))))))))
  unfold f_S_shape_58 f_S_shape_86
  rw [if_pos (by decide), if_pos rfl]
  refine zR_g h8 (zR_i (fun _ => zR_s) (fun n8 => zR_g h3 (zR_i (fun _ => zR_s) (fun n3 => zR_g x0 (zR_g (by rw [pk.2.1]; unfold r32; omega) (zR_i (fun le => ?_) (fun _ => zR_s)))))))
  rw [pk.2.1] at le
  unfold r32 at h8
  exact C_s95 hK pk' pk (by first | decide | omega) (by first | decide | omega) (m' + 1).toNat K.1 0 a8 (by first | decide | omega) (by first | decide | omega) (by first | decide | omega) (by first | decide | omega)
end
end
section
section
variable {cc : Int}
/-! ===== shape: the reference's steps ===== -/
section
variable {K : Nat} {F : zF} {B : zB}
theorem L_gcdS : ∀ (d n : Nat) (x y : Int), 0 ≤ x → x < 9223372036854775808 → 0 ≤ y → y < 9223372036854775808 → y < 2 ^ d → 2 * d < n → f_M_gcd_6 K n y x F B = some (gc x y, F, B) := by
  have step : ∀ (p : Nat) (x y : Int), 0 ≤ x → x < 9223372036854775808 → 0 < y → y < 9223372036854775808 → f_M_gcd_6 K (p + 1) y x F B = f_M_gcd_6 K p (x % y) y F B ∧ gc y (x % y) = gc x y := fun p x y x0 x1 y0 y1 => by
    refine ⟨?_, ?_⟩
    · rw [f_M_gcd_6, if_pos (by unfold r64; omega), if_neg (fun z => by have := zcmp_0.mp z; omega), if_pos (lI_n0 (by first | decide | omega) (by unfold r64; omega)), zlrm_e x0 x1 (by first | decide | omega) y1]
    · unfold gc
      have m0 : 0 ≤ x % y := Int.emod_nonneg x (by first | decide | omega)
      have e2 : (x % y).toNat = x.toNat % y.toNat := by
        apply Int.ofNat_inj.mp
        rw [Int.natCast_emod, show ((x.toNat : Nat) : Int) = x by omega, show ((y.toNat : Nat) : Int) = y by omega]
        omega
      rw [e2, Nat.gcd_comm y.toNat, ← Nat.gcd_rec, Nat.gcd_comm]
  have zero : ∀ (p : Nat) (x : Int), 0 ≤ x → f_M_gcd_6 K (p + 1) 0 x F B = some (gc x 0, F, B) := fun p x x0 => by
    rw [f_M_gcd_6, if_pos (by decide), if_pos (zcmp_0.mpr rfl)]
    unfold gc
    rw [show (0 : Int).toNat = 0 from rfl, Nat.gcd_zero_right, show ((x.toNat : Nat) : Int) = x by omega]
  intro d
  induction d with
  | zero =>
    intro n x y x0 x1 y0 y1 hy hn
    obtain ⟨p, rfl⟩ : ∃ p, n = p + 1 := ⟨n - 1, (by first | decide | omega)⟩
    have : y = 0 := by omega
    rw [this]; exact zero p x x0
  | succ d ih =>
    intro n x y x0 x1 y0 y1 hy hn
    obtain ⟨p, rfl⟩ : ∃ p, n = p + 1 + 1 + 1 := ⟨n - 3, (by first | decide | omega)⟩
    by_cases z : y = 0
    · rw [z]; exact zero _ x x0
    have m0 : 0 ≤ x % y := Int.emod_nonneg x z
    have m1 : x % y < y := Int.emod_lt_of_pos x (by first | decide | omega)
    obtain ⟨s1, g1⟩ := step (p + 1 + 1) x y x0 x1 (by first | decide | omega) y1
    rw [s1, ← g1]
    by_cases z' : x % y = 0
    · rw [z']; exact zero _ y y0
    have k0 : 0 ≤ y % (x % y) := Int.emod_nonneg y z'
    have k1 : y % (x % y) < x % y := Int.emod_lt_of_pos y (by first | decide | omega)
    obtain ⟨s2, g2⟩ := step (p + 1) y (x % y) y0 y1 (by first | decide | omega) (by first | decide | omega)
    rw [s2, ← g2]
    refine ih (p + 1) (x % y) (y % (x % y)) m0 (by first | decide | omega) k0 (by first | decide | omega) ?_ (by first | decide | omega)
    have q := Int.emod_add_mul_ediv y (x % y)
    have q1 : 1 ≤ y / (x % y) := Int.le_ediv_of_mul_le (by first | decide | omega) (by first | decide | omega)
    have q2 : (x % y) * 1 ≤ (x % y) * (y / (x % y)) := Int.mul_le_mul_of_nonneg_left q1 (by first | decide | omega)
    have e2 : (2 : Int) ^ (d + 1) = 2 ^ d * 2 := Int.pow_succ 2 d
    omega
theorem L_gcdW (hK : 200 ≤ K) {x y : Int} (x0 : 0 ≤ x) (x1 : x < 9223372036854775808) (y0 : 0 ≤ y) (y1 : y < 9223372036854775808) : f_M_gcd K x y F B = some (gc x y, F, B) := L_gcdS 63 K x y x0 x1 y0 y1 (by first | decide | omega) (by first | decide | omega)
theorem ediv_g {a b : Int} (a0 : 0 < a) (b0 : 0 < b) : (0 < a / gc a b ∧ a / gc a b ≤ a) ∧ (0 < b / gc a b ∧ b / gc a b ≤ b) := by
  have g := gc_pos (a := a) b0
  obtain ⟨z, hz⟩ := gc_dl (a := a) (b := b) (by first | decide | omega)
  obtain ⟨y, hy⟩ := gc_dr (a := a) (b := b) (by first | decide | omega)
  exact ⟨⟨Int.ediv_pos_of_pos_of_dvd a0 (by first | decide | omega) ⟨z, hz⟩, Int.ediv_le_self _ (by first | decide | omega)⟩, ⟨Int.ediv_pos_of_pos_of_dvd b0 (by first | decide | omega) ⟨y, hy⟩, Int.ediv_le_self _ (by first | decide | omega)⟩⟩
theorem L_isW (hK : 200 ≤ K) {u d : Int} (u0 : 0 < u) (u1 : u < 9223372036854775808) (d0 : 0 < d) (d1 : d < 9223372036854775808) : ∃ a b, f_M_is K u d F B = some (0, zup3 (zup3 F 14 0 0 a) 14 0 1 b, B) ∧ (0 < a ∧ a ≤ u) ∧ (0 < b ∧ b ≤ d) := by
  have g := gc_pos (a := u) d0
  have gl := gc_le (a := u) d0
  unfold f_M_is
  rw [L_gcdW hK (by first | decide | omega) u1 (by first | decide | omega) d1, zb_s, if_pos (lI_n0 g (by unfold r64; omega)), zldv_e (by first | decide | omega) u1 g (by first | decide | omega), zldv_e (by first | decide | omega) d1 g (by first | decide | omega)]
  have k := ediv_g u0 d0
  exact ⟨_, _, rfl, k.1, k.2⟩
theorem mulB {a b x y : Int} (a0 : 0 < a) (a1 : a ≤ x) (b0 : 0 < b) (b1 : b ≤ y) : 0 < a * b ∧ a * b ≤ x * y := ⟨Int.mul_pos a0 b0, Int.mul_le_mul a1 b1 (by first | decide | omega) (by first | decide | omega)⟩
theorem L_tmW (hK : 200 ≤ K) {a b c d x y z t : Int} (ha : 0 < a ∧ a ≤ x) (hb : 0 < b ∧ b ≤ y) (hc : 0 < c ∧ c ≤ z) (hd : 0 < d ∧ d ≤ t) (h1 : x * z < 9223372036854775808) (h2 : y * t < 9223372036854775808) (hx : x < 9223372036854775808) (hy : y < 9223372036854775808) (hz : z < 9223372036854775808) (ht : t < 9223372036854775808) : ∃ u v, f_M_times K a b c d F B = some (0, zup3 (zup3 F 14 0 0 u) 14 0 1 v, B) ∧ (0 < u ∧ u ≤ x * z) ∧ (0 < v ∧ v ≤ y * t) := by
  have g := gc_pos (a := a) hd.1
  have gl := gc_le (a := a) hd.1
  have g' := gc_pos (a := c) hb.1
  have gl' := gc_le (a := c) hb.1
  have e1 := ediv_g ha.1 hd.1
  have e2 := ediv_g hc.1 hb.1
  unfold f_M_times
  rw [L_gcdW hK (by first | decide | omega) (by first | decide | omega) (by first | decide | omega) (by first | decide | omega), zb_s, L_gcdW hK (by first | decide | omega) (by first | decide | omega) (by first | decide | omega) (by first | decide | omega), zb_s, if_pos (lI_n0 g (by unfold r64; omega)), if_pos (lI_n0 g' (by unfold r64; omega)), zldv_e (by first | decide | omega) (by first | decide | omega) g (by first | decide | omega), zldv_e (by first | decide | omega) (by first | decide | omega) g' (by first | decide | omega), zldv_e (by first | decide | omega) (by first | decide | omega) g' (by first | decide | omega), zldv_e (by first | decide | omega) (by first | decide | omega) g (by first | decide | omega)]
  have m1 := mulB e1.1.1 (show a / gc a d ≤ x by omega) e2.1.1 (show c / gc c b ≤ z by omega)
  have m2 := mulB e2.2.1 (show b / gc c b ≤ y by omega) e1.2.1 (show d / gc a d ≤ t by omega)
  obtain ⟨u, v, e, u0, v0⟩ := L_isW (F := F) (B := B) hK (u := a / gc a d * (c / gc c b)) (d := b / gc c b * (d / gc a d)) (by first | decide | omega) (by first | decide | omega) (by first | decide | omega) (by first | decide | omega)
  rw [e, zb_s]
  exact ⟨u, v, rfl, (by first | decide | omega), (by first | decide | omega)⟩
theorem L_lkW {w w' x x' : Int} (w0 : 0 ≤ w ∧ w < 3) (w0' : 0 ≤ w' ∧ w' < 3) (hx : 0 ≤ x ∧ x < 4000) (hx' : 0 ≤ x' ∧ x' < 4000) (b : 0 ≤ B 13 w 21 x ∧ B 13 w 21 x ≤ 6) (b' : 0 ≤ B 13 w' 21 x' ∧ B 13 w' 21 x' ≤ 6) : ∃ r, f_M_isLike K w x w' x' F B = some (r, F, B) ∧ ((r = 0) ∨ (r = 1 ∧ (B 13 w 21 x = 0 ↔ B 13 w' 21 x' = 0))) := by
  have d1 : r32 (1 : Int) := by decide
  have d0 : r32 (0 : Int) := by decide
  unfold f_M_isLike f_M_isLike_14 f_M_isLike_28 f_M_isLike_36
  rw [if_pos w0, if_pos hx, if_pos (by unfold r32; omega)]
  by_cases z : B 13 w 21 x = 0
  · rw [if_pos z, if_pos w0', if_pos hx', if_pos (by unfold r32; omega)]
    by_cases z' : B 13 w' 21 x' = 0
    · rw [if_pos z', if_pos d1, if_pos d1, if_pos rfl, if_pos (Or.inr rfl)]
      exact ⟨1, rfl, Or.inr ⟨rfl, (by first | decide | omega)⟩⟩
    · rw [if_neg z', if_pos d1, if_pos d0, if_neg (by decide), if_pos (Or.inl rfl)]
      exact ⟨0, rfl, Or.inl rfl⟩
  · rw [if_neg z, if_pos w0', if_pos hx', if_pos (by unfold r32; omega)]
    by_cases z' : B 13 w' 21 x' = 0
    · rw [if_pos z', if_pos d0, if_pos d1, if_neg (by decide), if_pos (Or.inl rfl)]
      exact ⟨0, rfl, Or.inl rfl⟩
    · rw [if_neg z', if_pos d0, if_pos d0, if_pos rfl, if_pos (Or.inr rfl)]
      exact ⟨1, rfl, Or.inr ⟨rfl, (by first | decide | omega)⟩⟩
def LBd (w x : Int) (B : zB) : Prop := (0 < B 13 w 16 x ∧ B 13 w 16 x ≤ 82944) ∧ (0 < B 13 w 17 x ∧ B 13 w 17 x ≤ 10368)
def scr (F F' : zF) : Prop := ∀ i y k, ¬ (i = 14 ∧ y = 0 ∧ k ≤ 1) → F' i y k = F i y k
theorem scr_2 {F : zF} {a b : Int} : scr F (zup3 (zup3 F 14 0 0 a) 14 0 1 b) := fun i y k n => by
  unfold zup3
  rw [if_neg (by first | decide | omega), if_neg (by first | decide | omega)]
theorem scr_t {F F' F'' : zF} (h : scr F F') (g : scr F' F'') : scr F F'' := fun i y k n => by rw [g i y k n, h i y k n]
theorem L_len (hK : 200 ≤ K) {w w' x x' y y' s : Int} (w0 : 0 ≤ w ∧ w < 3) (w0' : 0 ≤ w' ∧ w' < 3) (hx : 0 ≤ x ∧ x < 4000) (hx' : 0 ≤ x' ∧ x' < 4000) (hy : 0 ≤ y ∧ y < 4000) (hy' : 0 ≤ y' ∧ y' < 4000) (bx : LBd w x B) (bx' : LBd w x' B) (b_y : LBd w' y B) (b_y' : LBd w' y' B) (hs : s = 0 ∨ s = 1) : ∃ r F', f_M_isLength K w x x' w' y y' s F B = some (r, F', B) ∧ (r = 0 ∨ r = 1) ∧ scr F F' := by
  unfold LBd at bx bx' b_y b_y'
  have z0 : ∀ F : zF, ∃ r F', (if ((0 : Int) = 0 ∨ (0 : Int) = 1) then some ((0 : Int), F, B) else none) = some (r, F', B) ∧ (r = 0 ∨ r = 1) ∧ scr F F' := fun F => ⟨0, F, by rw [if_pos (Or.inl rfl)], Or.inl rfl, fun _ _ _ _ => rfl⟩
  unfold f_M_isLength f_M_isLength_45 f_M_isLength_46 f_M_isLength_147 f_M_isLength_148
  rw [if_pos (by unfold r32; omega)]
  by_cases c : s = 0
  · rw [if_pos c, if_pos w0, if_pos hx', if_pos w0', if_pos hy', if_pos (by unfold r64; omega), if_pos (by unfold r64; omega)]
    by_cases c1 : zcmp (B 13 w 16 x') (B 13 w' 16 y') = 0
    · rw [if_pos c1, if_pos (by unfold r64; omega), if_pos (by unfold r64; omega)]
      by_cases c2 : zcmp (B 13 w 17 x') (B 13 w' 17 y') = 0
      · rw [if_pos c2, if_pos (Or.inr rfl)]
        exact ⟨1, F, rfl, Or.inr rfl, fun _ _ _ _ => rfl⟩
      · rw [if_neg c2]; exact z0 F
    · rw [if_neg c1]; exact z0 F
  · rw [if_neg c, if_pos w0', if_pos hy, if_pos w0, if_pos hx]
    obtain ⟨u, v, e, u0, v0⟩ := L_tmW (F := F) (B := B) hK b_y.1 b_y.2 bx.2 bx.1 (by decide) (by decide) (by decide) (by decide) (by decide) (by decide)
    have f0 : (zup3 (zup3 F 14 0 0 u) 14 0 1 v) 14 0 0 = u := by unfold zup3; rw [if_neg (by decide), if_pos (by decide)]
    have f1 : (zup3 (zup3 F 14 0 0 u) 14 0 1 v) 14 0 1 = v := by unfold zup3; rw [if_pos (by decide)]
    have hsc := scr_2 (F := F) (a := u) (b := v)
    rw [e, zb_s, if_pos hx']
    obtain ⟨F1, eF⟩ : ∃ F1, F1 = zup3 (zup3 F 14 0 0 u) 14 0 1 v := ⟨_, rfl⟩
    rw [← eF] at f0 f1 hsc ⊢
    rw [f0, f1]
    obtain ⟨u', v', e', u0', v0'⟩ := L_tmW (F := F1) (B := B) hK bx'.1 bx'.2 (c := u) (z := 859963392) (by first | decide | omega) (d := v) (t := 859963392) (by first | decide | omega) (by decide) (by decide) (by decide) (by decide) (by decide) (by decide)
    have k0 : (zup3 (zup3 F1 14 0 0 u') 14 0 1 v') 14 0 0 = u' := by unfold zup3; rw [if_neg (by decide), if_pos (by decide)]
    have k1 : (zup3 (zup3 F1 14 0 0 u') 14 0 1 v') 14 0 1 = v' := by unfold zup3; rw [if_pos (by decide)]
    have hsc' := scr_t hsc (scr_2 (F := F1) (a := u') (b := v'))
    rw [e', zb_s, if_pos hy']
    obtain ⟨F2, eG⟩ : ∃ F2, F2 = zup3 (zup3 F1 14 0 0 u') 14 0 1 v' := ⟨_, rfl⟩
    rw [← eG] at k0 k1 hsc' ⊢
    rw [k0, k1, if_pos (by unfold r64; omega), if_pos (by unfold r64; omega)]
    have zz : ∃ r F', (if ((0 : Int) = 0 ∨ (0 : Int) = 1) then some ((0 : Int), F2, B) else none) = some (r, F', B) ∧ (r = 0 ∨ r = 1) ∧ scr F F' := ⟨0, F2, by rw [if_pos (Or.inl rfl)], Or.inl rfl, hsc'⟩
    by_cases c1 : zcmp u' (B 13 w' 16 y') = 0
    · rw [if_pos c1, if_pos (by unfold r64; omega), if_pos (by unfold r64; omega)]
      by_cases c2 : zcmp v' (B 13 w' 17 y') = 0
      · rw [if_pos c2, if_pos (Or.inr rfl)]
        exact ⟨1, F2, rfl, Or.inr rfl, hsc'⟩
      · rw [if_neg c2]; exact zz
    · rw [if_neg c1]; exact zz
end
end
end
section
section
variable {cc : Int}
/-! ===== shape: the reference's loops; the call ===== -/
theorem RDW_s {V w : Int} {F F' : zF} {B : zB} (h : RDW V w F B) (g : scr F F') : RDW V w F' B := by
  have e : ∀ k, F' 13 w k = F 13 w k := fun k => g 13 w k (by first | decide | omega)
  unfold RDW at h ⊢
  rw [e 1, e 2, e 4, e 5, e 7]
  exact h
theorem L_i41 {K : Nat} {V V' w w' u u' a c n l10 l7 l6 : Int} {F0 : zF} {B : zB} (hK : 200 ≤ K) (hR : RDW V w F0 B) (u0 : 0 ≤ u) (u1 : u < V) (hR' : RDW V' w' F0 B) (u0' : 0 ≤ u') (u1' : u' < V') (ha : 0 ≤ a ∧ a + n ≤ B 13 w 12 u) (hc : 0 ≤ c ∧ c + n ≤ B 13 w' 12 u') (hl : ∀ i, 0 ≤ i → i < B 13 w 12 u → LBd w (1000 * u + i) B) (hl' : ∀ i, 0 ≤ i → i < B 13 w' 12 u' → LBd w' (1000 * u' + i) B) (h7 : r32 l7) (hn : 0 ≤ n ∧ n ≤ 20) (h10 : 1000 * u' ≤ l10 ∧ l10 < 1000 * u' + B 13 w' 12 u') : ∀ (d N : Nat) (i l9 l8 : Int) (F : zF), i + d = n → 0 ≤ i → d < N → (-1 ≤ l8 ∧ l8 ≤ 62) → (-1 ≤ l9 ∧ l9 ≤ 62) → scr F0 F → ∃ r F', f_M_isShape_41 K N i l10 l9 l8 l7 w (1000 * u + a) n w' (1000 * u' + c) l6 F B = some (r, F', B) ∧ (r = 0 ∨ r = 1) ∧ scr F0 F' := by
  have w0 := hR.1
  have w0' := hR'.1
  have hV := hR.2.1
  have hV' := hR'.2.1
  have hv := (rd_v hR u0 u1).1
  have hv' := (rd_v hR' u0' u1').1
  intro d
  induction d with
  | zero =>
    intro N i l9 l8 F hi i0 hN b8 b9 sc
    obtain ⟨p, rfl⟩ : ∃ p, N = p + 1 := ⟨N - 1, (by first | decide | omega)⟩
    rw [f_M_isShape_41, if_pos (by unfold r32; omega), if_pos (by unfold r32; omega), if_pos (by first | decide | omega)]
    exact ⟨1, F, rfl, Or.inr rfl, sc⟩
  | succ d ih =>
    intro N i l9 l8 F hi i0 hN b8 b9 sc
    obtain ⟨p, rfl⟩ : ∃ p, N = p + 1 := ⟨N - 1, (by first | decide | omega)⟩
    have nxt : ∀ (l9 l8 : Int) (F : zF), (-1 ≤ l8 ∧ l8 ≤ 62) → (-1 ≤ l9 ∧ l9 ≤ 62) → scr F0 F → ∃ r F', f_M_isShape_209 (f_M_isShape_41 K p) K i l10 l9 l8 l7 w (1000 * u + a) n w' (1000 * u' + c) l6 F B = some (r, F', B) ∧ (r = 0 ∨ r = 1) ∧ scr F0 F' := fun l9 l8 F b8 b9 sc => ih p (i + 1) l9 l8 F (by first | decide | omega) (by first | decide | omega) (by first | decide | omega) b8 b9 sc
    rw [f_M_isShape_41, if_pos (by unfold r32; omega), if_pos (by unfold r32; omega), if_neg (by first | decide | omega), if_pos h7]
    have key : ∀ t : Int, 0 ≤ t → t < B 13 w' 12 u' → ∃ r F', f_M_isShape_75 (f_M_isShape_41 K p) K (1000 * u + a + i) i l10 l9 l8 l7 w (1000 * u + a) n w' (1000 * u' + c) l6 (1000 * u' + t) F B = some (r, F', B) ∧ (r = 0 ∨ r = 1) ∧ scr F0 F' := fun t t0 t1 => by
      have e1 := (rd_e hR u0 u1 (x := 1000 * u + a + i) (by first | decide | omega) (by first | decide | omega)).2.2.1
      have e2 := (rd_e hR' u0' u1' (x := 1000 * u' + t) (by first | decide | omega) (by first | decide | omega)).2.2.1
      obtain ⟨r, er, hr⟩ := L_lkW (K := K) (F := F) w0 w0' (show 0 ≤ 1000 * u + a + i ∧ 1000 * u + a + i < 4000 by omega) (show 0 ≤ 1000 * u' + t ∧ 1000 * u' + t < 4000 by omega) e1 e2
      have q1 := hl a ha.1 (by first | decide | omega)
      have q2 := hl (a + i) (by first | decide | omega) (by first | decide | omega)
      rw [show 1000 * u + (a + i) = 1000 * u + a + i by omega] at q2
      have q3 := hl' (l10 - 1000 * u') (by first | decide | omega) (by first | decide | omega)
      rw [show 1000 * u' + (l10 - 1000 * u') = l10 by omega] at q3
      have q4 := hl' t t0 t1
      have z0 : ∀ G : zF, scr F0 G → ∃ r F', f_M_isShape_119 K G B = some (r, F', B) ∧ (r = 0 ∨ r = 1) ∧ scr F0 F' := fun G sG => ⟨0, G, rfl, Or.inl rfl, sG⟩
      have k113 : ∀ s : Int, (s = 0 ∨ s = 1) → (B 13 w 21 (1000 * u + a + i) = 0 ↔ B 13 w' 21 (1000 * u' + t) = 0) → ∃ r F', f_M_isShape_113 (f_M_isShape_41 K p) K (1000 * u' + t) (1000 * u + a + i) i l10 l9 l8 l7 w (1000 * u + a) n w' (1000 * u' + c) l6 w (1000 * u + a) (1000 * u + a + i) w' l10 (1000 * u' + t) s F B = some (r, F', B) ∧ (r = 0 ∨ r = 1) ∧ scr F0 F' := fun s hs lk => by
        obtain ⟨r, G, eG, r01, sG⟩ := L_len (F := F) hK w0 w0' (show 0 ≤ 1000 * u + a ∧ 1000 * u + a < 4000 by omega) (show 0 ≤ 1000 * u + a + i ∧ 1000 * u + a + i < 4000 by omega) (show 0 ≤ l10 ∧ l10 < 4000 by omega) (show 0 ≤ 1000 * u' + t ∧ 1000 * u' + t < 4000 by omega) q1 q2 q3 q4 hs
        have sG' := scr_t sc sG
        unfold f_M_isShape_113
        rw [if_pos w0, if_pos w0', eG, zb_s, if_pos (by unfold r32; omega)]
        by_cases c1 : r = 0
        · rw [if_pos c1]; exact z0 G sG'
        rw [if_neg c1, if_pos w0, if_pos (by first | decide | omega), if_pos (by unfold r32; omega)]
        by_cases c2 : B 13 w 21 (1000 * u + a + i) = 0
        · rw [if_pos c2]; exact nxt l9 l8 G b8 b9 sG'
        obtain ⟨s1, f1, b1, m1⟩ := L_lnO (K := K) (by first | decide | omega) (RDW_s hR sG') u0 u1 (x := 1000 * u + a + i) (by first | decide | omega) (by first | decide | omega) (by first | decide | omega)
        obtain ⟨s2, f2, b2, m2⟩ := L_lnO (K := K) (by first | decide | omega) (RDW_s hR' sG') u0' u1' (x := 1000 * u' + t) (by first | decide | omega) (by first | decide | omega) (by first | decide | omega)
        rw [if_neg c2, f1, zb_s, if_pos b1, if_pos w0', f2, zb_s, if_pos b2, if_pos (by unfold r32; omega)]
        have k175 : ∀ l9 l8 : Int, (-1 ≤ l8 ∧ l8 ≤ 62) → (-1 ≤ l9 ∧ l9 ≤ 62) → ∃ r F', f_M_isShape_175 (f_M_isShape_41 K p) K (B 13 w' 28 s2) (B 13 w 28 s1) i l10 l9 l8 l7 w (1000 * u + a) n w' (1000 * u' + c) l6 G B = some (r, F', B) ∧ (r = 0 ∨ r = 1) ∧ scr F0 F' := fun l9 l8 b8 b9 => by
          have k195 : ∀ z : Int, r32 z → ∃ r F', f_M_isShape_195 (f_M_isShape_41 K p) K (B 13 w' 28 s2) i l10 l9 l8 l7 w (1000 * u + a) n w' (1000 * u' + c) l6 z G B = some (r, F', B) ∧ (r = 0 ∨ r = 1) ∧ scr F0 F' := fun z hz => by
            unfold f_M_isShape_195
            rw [if_pos (by unfold r32; omega), if_pos hz]
            by_cases c3 : B 13 w' 28 s2 - l9 = z
            · rw [if_pos c3]; exact nxt l9 l8 G b8 b9 sG'
            · rw [if_neg c3]; exact ⟨0, G, rfl, Or.inl rfl, sG'⟩
          unfold f_M_isShape_175
          rw [if_pos (zand_R _ _)]
          by_cases c3 : zand l6 1 ≤ 0
          · rw [if_pos c3]; exact k195 _ (by unfold r32; omega)
          · rw [if_neg c3]; exact k195 _ (by unfold r32; omega)
        by_cases c3 : 0 ≤ l8
        · rw [if_pos c3]; exact k175 l9 l8 b8 b9
        · rw [if_neg c3]; exact k175 _ _ (by first | decide | omega) (by first | decide | omega)
      unfold f_M_isShape_75
      rw [er, zb_s, if_pos (by unfold r32; omega)]
      by_cases c1 : r = 0
      · rw [if_pos c1]; exact z0 F sc
      have lk := (hr.resolve_left c1).2
      rw [if_neg c1, if_pos (zand_R _ _)]
      by_cases c3 : zand l6 4 ≤ 0
      · rw [if_pos c3, if_pos w0, if_pos w0']; exact k113 0 (Or.inl rfl) lk
      · rw [if_neg c3, if_pos w0, if_pos w0']; exact k113 1 (Or.inr rfl) lk
    by_cases z7 : l7 = 0
    · rw [if_pos z7]
      have k := key (c + i) (by first | decide | omega) (by first | decide | omega)
      rw [show 1000 * u' + (c + i) = 1000 * u' + c + i by omega] at k
      exact k
    · rw [if_neg z7]
      have k := key (c + n - 1 - i) (by first | decide | omega) (by first | decide | omega)
      rw [show 1000 * u' + (c + n - 1 - i) = 1000 * u' + c + n - 1 - i by omega] at k
      exact k
theorem L_isS {K : Nat} {V V' w w' u u' a c n l6 : Int} {F0 F : zF} {B : zB} (hK : 200 ≤ K) (hR : RDW V w F0 B) (u0 : 0 ≤ u) (u1 : u < V) (hR' : RDW V' w' F0 B) (u0' : 0 ≤ u') (u1' : u' < V') (ha : 0 ≤ a ∧ a + n ≤ B 13 w 12 u) (hc : 0 ≤ c ∧ c + n ≤ B 13 w' 12 u') (hl : ∀ i, 0 ≤ i → i < B 13 w 12 u → LBd w (1000 * u + i) B) (hl' : ∀ i, 0 ≤ i → i < B 13 w' 12 u' → LBd w' (1000 * u' + i) B) (hn : 2 ≤ n ∧ n ≤ 20) (sc : scr F0 F) : ∃ r F', f_M_isShape K w (1000 * u + a) n w' (1000 * u' + c) l6 F B = some (r, F', B) ∧ (r = 0 ∨ r = 1) ∧ scr F0 F' := by
  have k36 : ∀ l7 t : Int, r32 l7 → 0 ≤ t → t < B 13 w' 12 u' → ∃ r F', f_M_isShape_36 K (-1) (-1) l7 w (1000 * u + a) n w' (1000 * u' + c) l6 (1000 * u' + t) F B = some (r, F', B) ∧ (r = 0 ∨ r = 1) ∧ scr F0 F' := fun l7 t h7 t0 t1 => by
    unfold f_M_isShape_36
    exact L_i41 hK hR u0 u1 hR' u0' u1' ha hc hl hl' h7 (by first | decide | omega) (by first | decide | omega) n.toNat K 0 (-1) (-1) F (by first | decide | omega) (by first | decide | omega) (by first | decide | omega) (by first | decide | omega) (by first | decide | omega) sc
  have k12 : ∀ l7 : Int, r32 l7 → ∃ r F', f_M_isShape_12 K w (1000 * u + a) n w' (1000 * u' + c) l6 l7 F B = some (r, F', B) ∧ (r = 0 ∨ r = 1) ∧ scr F0 F' := fun l7 h7 => by
    unfold f_M_isShape_12
    rw [if_pos h7]
    by_cases z : l7 = 0
    · rw [if_pos z]
      exact k36 l7 c h7 (by first | decide | omega) (by first | decide | omega)
    · rw [if_neg z]
      have k := k36 l7 (c + n - 1) h7 (by first | decide | omega) (by first | decide | omega)
      rw [show 1000 * u' + (c + n - 1) = 1000 * u' + c + n - 1 by omega] at k
      exact k
  unfold f_M_isShape
  rw [if_pos (zand_R _ _)]
  by_cases z : zand l6 2 ≤ 0
  · rw [if_pos z]; exact k12 0 (by decide)
  · rw [if_neg z]; exact k12 1 (by decide)
theorem L_s92 {K : Nat} {V V' w w' u u' a n l6 l8 : Int} {F0 : zF} {B : zB} (hK : 200 ≤ K) (hR : RDW V w F0 B) (u0 : 0 ≤ u) (u1 : u < V) (hR' : RDW V' w' F0 B) (u0' : 0 ≤ u') (u1' : u' < V') (ha : 0 ≤ a ∧ a + n ≤ B 13 w 12 u) (hl : ∀ i, 0 ≤ i → i < B 13 w 12 u → LBd w (1000 * u + i) B) (hl' : ∀ i, 0 ≤ i → i < B 13 w' 12 u' → LBd w' (1000 * u' + i) B) (hn : 2 ≤ n ∧ n ≤ 20) (h8 : r32 l8) : ∀ (d N : Nat) (i l11 : Int) (F : zF), i + d = B 13 w' 12 u' → 0 ≤ i → d < N → 0 ≤ l11 → l11 ≤ i → scr F0 F → ∃ r F', f_M_shape_92 K N i l11 w' w u a n u' l6 l8 F B = some (r, F', B) ∧ scr F0 F' := by
  have w0 := hR.1
  have w0' := hR'.1
  have hV' := hR'.2.1
  have hv' := (rd_v hR' u0' u1').1
  intro d
  induction d with
  | zero =>
    intro N i l11 F hi i0 hN k0 k1 sc
    obtain ⟨p, rfl⟩ : ∃ p, N = p + 1 := ⟨N - 1, (by first | decide | omega)⟩
    rw [f_M_shape_92, if_pos w0', if_pos (by first | decide | omega), if_pos (by unfold r32; omega), if_pos (by unfold r32; omega), if_pos (by first | decide | omega)]
    exact ⟨-1, F, rfl, sc⟩
  | succ d ih =>
    intro N i l11 F hi i0 hN k0 k1 sc
    obtain ⟨p, rfl⟩ : ∃ p, N = p + 1 := ⟨N - 1, (by first | decide | omega)⟩
    rw [f_M_shape_92, if_pos w0', if_pos (by first | decide | omega), if_pos (by unfold r32; omega), if_pos (by unfold r32; omega)]
    by_cases z : B 13 w' 12 u' < i + n
    · rw [if_pos z]; exact ⟨-1, F, rfl, sc⟩
    obtain ⟨r, G, eG, r01, sG⟩ := L_isS (l6 := l6) hK hR u0 u1 hR' u0' u1' ha (c := i) (by first | decide | omega) hl hl' hn sc
    rw [if_neg z, if_pos w0, eG, zb_s, if_pos (by unfold r32; omega)]
    unfold f_M_shape_155
    by_cases c1 : r = 0
    · rw [if_pos c1]; exact ih p _ _ G (by first | decide | omega) (by first | decide | omega) (by first | decide | omega) k0 (by first | decide | omega) sG
    · rw [if_neg c1, if_pos (by unfold r32; omega), if_pos h8]
      by_cases c2 : l11 = l8
      · rw [if_pos c2]; exact ⟨i, G, rfl, sG⟩
      · rw [if_neg c2]; exact ih p _ _ G (by first | decide | omega) (by first | decide | omega) (by first | decide | omega) (by first | decide | omega) (by first | decide | omega) sG
theorem LBd_v {K : zK} {F Fm : zF} {B Bm : zB} {q V w u : Int} (hP : PK K V q w F B Fm Bm) (u0 : 0 ≤ u) (u1 : u < V) : ∀ i, 0 ≤ i → i < Bm 13 w 12 u → LBd w (1000 * u + i) Bm := by
  intro i i0 i1
  obtain ⟨hH, m, g, hV, _⟩ := hP.2.2 u u0 u1
  obtain ⟨v1, v2, v3, v4, v5, v6, _⟩ := hV
  obtain ⟨w1, w2, _⟩ := v6 i.toNat (by first | decide | omega)
  rw [show ((i.toNat : Nat) : Int) = i by omega] at w1 w2
  obtain ⟨k1, k2, k3, ⟨z, z1, z2⟩, ⟨l1, l2, l3, l4⟩, _⟩ := w1
  generalize F 1 (B 4 (B 6 q 0 u) 5 i) 1 = L at *
  generalize F 1 (B 4 (B 6 q 0 u) 5 i) 2 = M at *
  generalize F 1 (B 4 (B 6 q 0 u) 5 i) 3 = D at *
  generalize F 1 (B 4 (B 6 q 0 u) 5 i) 4 = C at *
  have zp : 0 < z := by
    rcases Int.lt_or_le 0 z with y | y
    · exact y
    · have := Int.mul_nonpos_of_nonneg_of_nonpos (show 0 ≤ D by omega) y
      omega
  have eW : WW = z * (128 * D) := by
    have : WW = 6350400 * 128 := rfl
    rw [this, z1, Int.mul_comm D z, Int.mul_assoc, Int.mul_comm D 128]
  have eL : L = z * (M * C) := by rw [z2, Int.mul_assoc]
  have hg : ∃ t, gc L WW = z * t := by
    unfold gc
    have d1 : z.toNat ∣ L.toNat := ⟨(M * C).toNat, by
      have := Int.mul_pos (show 0 < M by omega) (show 0 < C by omega)
      apply Int.ofNat_inj.mp
      rw [Int.natCast_mul, Int.toNat_of_nonneg (by first | decide | omega), Int.toNat_of_nonneg (by first | decide | omega), Int.toNat_of_nonneg (by first | decide | omega), eL]⟩
    have d2 : z.toNat ∣ WW.toNat := ⟨(128 * D).toNat, by
      apply Int.ofNat_inj.mp
      have : WW = 812851200 := rfl
      rw [Int.natCast_mul, Int.toNat_of_nonneg (by first | decide | omega), Int.toNat_of_nonneg (by first | decide | omega), Int.toNat_of_nonneg (by first | decide | omega), eW]⟩
    obtain ⟨t, ht⟩ := Nat.dvd_gcd d1 d2
    exact ⟨t, by rw [ht, Int.natCast_mul, Int.toNat_of_nonneg (by first | decide | omega)]⟩
  obtain ⟨t, ht⟩ := hg
  have gp := gc_pos (a := L) (b := WW) (by decide)
  have tp : 0 < t := by
    rcases Int.lt_or_le 0 t with y | y
    · exact y
    · have := Int.mul_nonpos_of_nonneg_of_nonpos (show 0 ≤ z by omega) y
      omega
  have q := ediv_g (a := L) (b := WW) (by first | decide | omega) (by decide)
  have mc := mulB (show 0 < M by omega) k1.2 (show 0 < C by omega) k3.2.2
  have b1 : L / gc L WW ≤ M * C := by
    rw [ht, eL, Int.mul_ediv_mul_of_pos _ _ zp]
    exact Int.ediv_le_self _ (by first | decide | omega)
  have b2 : WW / gc L WW ≤ 128 * D := by
    rw [ht]
    conv => lhs; lhs; rw [eW]
    rw [Int.mul_ediv_mul_of_pos _ _ zp]
    exact Int.ediv_le_self _ (by first | decide | omega)
  unfold LBd
  rw [l1, l2]
  unfold nu de
  omega
theorem L_shaR {Km : Nat} {a1 a2 a3 a4 a5 a6 a7 a8 : Int} (h1 : r32 a1) (h2 : r32 a2) (h3 : r32 a3) (h4 : r32 a4) (h5 : r32 a5) (h6 : r32 a6) (h7 : r32 a7) (h8 : r32 a8) {K : zK} {F Fm : zF} {B Bm : zB} (h : IV cc Km K F B Fm Bm) : ∃ r F', f_M_shape Km a1 a2 a3 a4 a5 a6 a7 a8 Fm Bm = some (r, F', Bm) ∧ scr Fm F' := by
  have hKm := (IV_k h).2.1
  have d1 : r32 (1 : Int) := by decide
  have d0 : r32 (0 : Int) := by decide
  obtain ⟨x, y, e, e1, e2, e3, e4⟩ := prt h h1 h2
  obtain ⟨x', y', e', e1', e2', e3', e4'⟩ := prt h h5 h6
  have o : ∃ r F', some ((-1 : Int), Fm, Bm) = some (r, F', Bm) ∧ scr Fm F' := ⟨-1, Fm, rfl, fun _ _ _ _ => rfl⟩
  unfold f_M_shape f_M_shape_64 f_M_shape_84
  rw [e2, zb_s, e2', zb_s, e3, zb_s]
  rcases e4 with ⟨_, e0⟩ | ⟨e0, x0, y0, z0, q, V, vV, ex, hP, _⟩
  · rw [e0, if_pos d0, if_pos rfl]; exact o
  rw [e0, if_pos d1, if_neg (by decide), e3', zb_s]
  rcases e4' with ⟨_, e0'⟩ | ⟨e0', x0', y0', z0', q', V', vV', ex', hP', _⟩
  · rw [e0', if_pos d0, if_pos rfl]; exact o
  have hR := PK_r hP
  have hR' := PK_r hP'
  have v1 := (rd_v hR z0.1 vV).1
  have v2 := (rd_v hR' z0'.1 vV').1
  rw [e0', if_pos d1, if_neg (by decide), if_pos h4]
  by_cases c1 : a4 < 2
  · rw [if_pos c1]; exact o
  rw [if_neg c1]
  by_cases c2 : 20 < a4
  · rw [if_pos c2]; exact o
  rw [if_neg c2, if_pos h7]
  by_cases c3 : a7 < 0
  · rw [if_pos c3]; exact o
  rw [if_neg c3]
  by_cases c4 : 7 < a7
  · rw [if_pos c4]; exact o
  rw [if_neg c4, if_pos h8]
  by_cases c5' : ¬ 0 ≤ a8
  · rw [if_neg c5']; exact o
  have c5 : 0 ≤ a8 := by omega
  rw [if_pos c5, if_pos h3]
  by_cases c6 : a3 < 0
  · rw [if_pos c6]; exact o
  rw [if_neg c6, if_pos y0, if_pos z0, if_pos (by unfold r32; omega)]
  by_cases c7' : ¬ a3 ≤ Bm 13 y 12 a2 - a4
  · rw [if_neg c7']; exact o
  have c7 : a3 ≤ Bm 13 y 12 a2 - a4 := by omega
  rw [if_pos c7]
  exact L_s92 (by first | decide | omega) hR z0.1 vV hR' z0'.1 vV' (by first | decide | omega) (LBd_v hP z0.1 vV) (LBd_v hP' z0'.1 vV') (by first | decide | omega) h8 (Bm 13 y' 12 a6).toNat Km 0 0 Fm (by first | decide | omega) (by first | decide | omega) (by first | decide | omega) (by first | decide | omega) (by first | decide | omega) (fun _ _ _ _ => rfl)
theorem p_shape {Km : Nat} (a1 a2 a3 a4 a5 a6 a7 a8 : Int) (h1 : r32 a1) (h2 : r32 a2) (h3 : r32 a3) (h4 : r32 a4) (h5 : r32 a5) (h6 : r32 a6) (h7 : r32 a7) (h8 : r32 a8) {K : zK} {F Fm : zF} {B Bm : zB} (h : IV cc Km K F B Fm Bm) : ∃ r1 F1 B1 r2 F2 B2, f_S_shape K 0 a1 a2 a3 a4 a5 a6 a7 a8 F B = some (r1, F1, B1) ∧ f_M_shape Km a1 a2 a3 a4 a5 a6 a7 a8 Fm Bm = some (r2, F2, B2) ∧ IV cc Km K F1 B1 F2 B2 := by
  obtain ⟨r, e⟩ := C_shaR h1 h2 h3 h4 h5 h6 h7 h8 h
  obtain ⟨r', F', e', g⟩ := L_shaR h1 h2 h3 h4 h5 h6 h7 h8 h
  exact ⟨r, F, B, r', F', Bm, e, e', IV_m h g⟩
end
end
section
section
/-! ===== play: numbers; the class's side ===== -/
theorem tdvB {a b y : Int} (hb : 0 < b) (h : -(b * y) ≤ a ∧ a ≤ b * y) : -y ≤ a.tdiv b ∧ a.tdiv b ≤ y := by
  rcases Int.lt_or_le a 0 with n | n
  · obtain ⟨c, rfl⟩ : ∃ c, a = -c := ⟨-a, (by first | decide | omega)⟩
    rw [Int.neg_tdiv, Int.tdiv_eq_ediv_of_nonneg (by first | decide | omega)]
    have k : c / b ≤ y := Int.ediv_le_of_le_mul hb (by rw [Int.mul_comm y b]; omega)
    have k0 : 0 ≤ c / b := Int.ediv_nonneg (by first | decide | omega) (by first | decide | omega)
    omega
  · rw [Int.tdiv_eq_ediv_of_nonneg n]
    have k : a / b ≤ y := Int.ediv_le_of_le_mul hb (by rw [Int.mul_comm y b]; omega)
    have k0 : 0 ≤ a / b := Int.ediv_nonneg n (by first | decide | omega)
    omega
theorem zdvB {a b y : Int} (ha : r32 a) (hb : 0 < b) (rb : r32 b) (h : -(b * y) ≤ a ∧ a ≤ b * y) : -y ≤ zdv a b ∧ zdv a b ≤ y := by
  rw [zdv_t ha hb rb]; exact tdvB hb h
theorem zdv2 {d : Int} (hd : r32 d) : (0 ≤ d → 0 ≤ zdv d 2 ∧ zdv d 2 ≤ d) ∧ (d ≤ 0 → d ≤ zdv d 2 ∧ zdv d 2 ≤ 0) := by
  rw [zdv_t hd (by decide) (by decide)]
  refine ⟨fun h => ?_, fun h => ?_⟩
  · rw [Int.tdiv_eq_ediv_of_nonneg h]; omega
  · obtain ⟨c, rfl⟩ : ∃ c, d = -c := ⟨-d, (by first | decide | omega)⟩
    rw [Int.neg_tdiv, Int.tdiv_eq_ediv_of_nonneg (by first | decide | omega)]; omega
theorem zush24 (a : Int) : 0 ≤ zushr a 24 ∧ zushr a 24 ≤ 255 := by
  have h : zushr a 24 = (BitVec.ofInt 32 a >>> 24).toInt := rfl
  have e : (BitVec.ofInt 32 a >>> 24).toNat = (a % 4294967296).toNat / 16777216 := by
    rw [BitVec.toNat_ushiftRight, Nat.shiftRight_eq_div_pow, BitVec.toNat_ofInt]; rfl
  rw [h, BitVec.toInt_eq_toNat_of_lt (by rw [e]; omega), e]
  omega
theorem zand7 (x : Int) : zand x 7 = x % 8 := by
  have h : (iI x &&& iI 7).toBitVec = BitVec.ofInt 32 x &&& 7#32 := rfl
  have hn : (BitVec.ofInt 32 x &&& 7#32).toNat = (x % 8).toNat := by
    rw [BitVec.toNat_and, BitVec.toNat_ofInt]
    show (x % (2 ^ 32 : Nat)).toNat &&& 7 = _
    rw [show (x % (2 ^ 32 : Nat)).toNat &&& 7 = (x % (2 ^ 32 : Nat)).toNat % 8 from Nat.and_two_pow_sub_one_eq_mod _ 3]
    omega
  show (iI x &&& iI 7).toBitVec.toInt = x % 8
  rw [h, BitVec.toInt_eq_toNat_of_lt (by rw [hn]; omega), hn]
  omega
theorem wv3 : ∀ x : Fin 257, -128 ≤ zdv (((x.val : Int) - 128) * (128 - zabs ((x.val : Int) - 128))) 32 ∧ zdv (((x.val : Int) - 128) * (128 - zabs ((x.val : Int) - 128))) 32 ≤ 128 := by decide +kernel
theorem wv3e {s : Int} (h : -128 ≤ s ∧ s ≤ 128) : -128 ≤ zdv (s * (128 - zabs s)) 32 ∧ zdv (s * (128 - zabs s)) 32 ≤ 128 := by
  have k := wv3 ⟨(s + 128).toNat, (by first | decide | omega)⟩
  rw [show (((⟨(s + 128).toNat, (by first | decide | omega)⟩ : Fin 257).val : Nat) : Int) - 128 = s by show (((s + 128).toNat : Nat) : Int) - 128 = s; omega] at k
  exact k
theorem mul3 {a b c : Int} (ha : -128 ≤ a ∧ a ≤ 128) (hb : 0 ≤ b ∧ b ≤ 256) (hc : 0 ≤ c ∧ c ≤ 127) : -(1024 * 4064) ≤ a * b * c ∧ a * b * c ≤ 1024 * 4064 := by
  have h1 : a * b ≤ 128 * b := Int.mul_le_mul_of_nonneg_right ha.2 hb.1
  have h2 : -128 * b ≤ a * b := Int.mul_le_mul_of_nonneg_right ha.1 hb.1
  have h3 : a * b * c ≤ 32768 * c := Int.mul_le_mul_of_nonneg_right (by first | decide | omega) hc.1
  have h4 : -32768 * c ≤ a * b * c := Int.mul_le_mul_of_nonneg_right (by first | decide | omega) hc.1
  omega
theorem zt13 : ztl 13 = 12 := by decide +kernel
theorem zt14 : ztl 14 = 89 ∧ (∀ k : Fin 89, 7 ≤ ztv 14 (k.val : Int) ∧ ztv 14 (k.val : Int) ≤ 32767) := by decide +kernel
theorem zt15 : ztl 15 = 8 ∧ (∀ k : Fin 8, -1 ≤ ztv 15 (k.val : Int) ∧ ztv 15 (k.val : Int) ≤ 8) := by decide +kernel
section
variable {K : zK} {F : zF} {B : zB}
theorem C_wave {a b : Int} (ha : 0 ≤ a ∧ a ≤ 3) (hb : 0 ≤ b ∧ b ≤ 255) : ∃ r, f_Performance_wave K a b F B = some (r, F, B) ∧ -128 ≤ r ∧ r ≤ 128 := by
  have key : ∀ s : Int, -128 ≤ s ∧ s ≤ 128 → ∃ r, f_Performance_wave_24 K a b s F B = some (r, F, B) ∧ -128 ≤ r ∧ r ≤ 128 := fun s hs => by
    unfold f_Performance_wave_24 f_Performance_wave_66
    rw [if_pos (by unfold r32; omega)]
    by_cases c0 : a = 0
    · rw [if_pos c0, if_pos (by unfold r32; omega)]
      by_cases c : 128 ≤ b
      · rw [if_pos c]; exact ⟨_, rfl, (by first | decide | omega), (by first | decide | omega)⟩
      · rw [if_neg c]; exact ⟨_, rfl, (by first | decide | omega), (by first | decide | omega)⟩
    · rw [if_neg c0]
      by_cases c1 : a = 1
      · rw [if_pos c1]; exact ⟨_, rfl, (by first | decide | omega), (by first | decide | omega)⟩
      · rw [if_neg c1]
        by_cases c2 : a = 2
        · rw [if_pos c2]; exact ⟨_, rfl, hs⟩
        · rw [if_neg c2, if_pos (by unfold r32; omega)]; exact ⟨_, rfl, wv3e hs⟩
  unfold f_Performance_wave
  rw [if_pos (by unfold r32; omega)]
  by_cases c : 128 ≤ b
  · rw [if_pos c]; exact key _ (by first | decide | omega)
  · rw [if_neg c]; exact key _ (by first | decide | omega)
theorem C_rise {x : Int} (hx : 0 ≤ x ∧ x ≤ 200000000) : ∃ r, f_Performance_rise K x F B = some (r, F, B) ∧ 0 ≤ r ∧ r ≤ 256 := by
  unfold f_Performance_rise f_Performance_rise_34
  rw [if_pos (by unfold r32; omega)]
  by_cases c : 40 ≤ x
  · rw [if_pos c, zdv_e (by first | decide | omega) (by unfold r32; omega) (by decide) (by decide), if_pos (by unfold r32; omega)]
    refine ⟨_, rfl, ?_⟩
    unfold zmax
    split <;> omega
  · rw [if_neg c, zdv_e (by first | decide | omega) (by unfold r32; omega) (by decide) (by decide)]
    exact ⟨_, rfl, (by first | decide | omega), (by first | decide | omega)⟩
theorem C_lev {a b : Int} (ha : 0 ≤ a ∧ a ≤ 200000000) (hb : 0 ≤ b ∧ b ≤ 200000000) (hab : a < b + 400) : ∃ r, f_Performance_level K a b F B = some (r, F, B) ∧ 0 ≤ r ∧ r ≤ 256 := by
  obtain ⟨r, e, r0, r1⟩ := C_rise (K := K) (F := F) (B := B) hb
  obtain ⟨r', e', r0', r1'⟩ := C_rise (K := K) (F := F) (B := B) ha
  unfold f_Performance_level f_Performance_level_28
  rw [if_pos (by unfold r32; omega), if_pos (by unfold r32; omega)]
  by_cases c : b ≤ a
  · have m1 : r * (400 - (a - b)) ≤ 256 * (400 - (a - b)) := Int.mul_le_mul_of_nonneg_right r1 (by first | decide | omega)
    have m2 : 0 ≤ r * (400 - (a - b)) := Int.mul_nonneg r0 (by first | decide | omega)
    rw [if_pos c, e, zb_s, zdv_e m2 (by unfold r32; omega) (by decide) (by decide)]
    exact ⟨_, rfl, (by first | decide | omega), (by first | decide | omega)⟩
  · rw [if_neg c, e', zb_s]; exact ⟨_, rfl, r0', r1'⟩
theorem C_turn {a : Int} (ha : 0 ≤ a ∧ a ≤ 127) : ∃ r, f_Performance_turn K a F B = some (r, F, B) := by
  unfold f_Performance_turn f_Performance_turn_35
  rw [zrm_e ha.1 (by unfold r32; omega) (by decide) (by decide), zdv_e ha.1 (by unfold r32; omega) (by decide) (by decide), zt13, if_pos (by first | decide | omega), if_pos (by unfold r32; omega)]
  by_cases c : 9 < a / 12
  · rw [if_pos c]; exact ⟨_, rfl⟩
  · rw [if_neg c]; exact ⟨_, rfl⟩
end
/-- what playing may change, class -/
def plF (s : Int) (F F' : zF) : Prop := ∀ c y k, ¬ (c = 5 ∧ y = s ∧ (k = 2 ∨ k = 3 ∨ k = 11 ∨ k = 12 ∨ k = 13)) → F' c y k = F c y k
def plB (s : Int) (B B' : zB) : Prop := ∀ c y k x, ¬ (c = 5 ∧ y = s ∧ (k = 4 ∨ k = 5 ∨ k = 6)) → B' c y k x = B c y k x
theorem plF_t {s : Int} {F F1 F2 : zF} (h : plF s F F1) (h' : plF s F1 F2) : plF s F F2 := fun c y k n => by rw [h' c y k n, h c y k n]
theorem plB_t {s : Int} {B B1 B2 : zB} (h : plB s B B1) (h' : plB s B1 B2) : plB s B B2 := fun c y k x n => by rw [h' c y k x n, h c y k x n]
theorem plB_w {s i x : Int} {B : zB} {k : Nat} (hk : k = 4 ∨ k = 5 ∨ k = 6) : plB s B (zup4 B 5 s k i x) := fun c y j z n => by rw [zup4_v, if_neg (by first | decide | omega)]
theorem plF_w {s x : Int} {F : zF} {k : Nat} (hk : k = 2 ∨ k = 3 ∨ k = 11 ∨ k = 12 ∨ k = 13) : plF s F (zup3 F 5 s k x) := fun c y j n => by rw [zup3_v, if_neg (by first | decide | omega)]
theorem C_m131 {K : zK} {s j n P E S l9 l10 l11 X : Int} {F : zF} (hs : 0 ≤ s ∧ s < K.2 5) (h11 : 0 ≤ l11 ∧ l11 ≤ 3) (hP : F 5 s 2 = P) (P0 : 0 ≤ P ∧ P ≤ 2000000) (hj : 0 ≤ j ∧ j < 2000) (n0 : 0 ≤ n ∧ n ≤ 1000) (S0 : 0 ≤ S) (SE : S ≤ E) (E1 : E ≤ 150000000) (h9 : l9 ≤ P + n ∧ l9 ≤ E + 400) (q9 : 0 ≤ l9) : ∀ (d N : Nat) (l13 l12 : Int) (B : zB), l9 ≤ l13 + d → d < N → P ≤ l13 → S ≤ l13 → l13 ≤ 200000000 → (0 ≤ B 5 s 343 j ∧ B 5 s 343 j ≤ 127) → (∀ i, 0 ≤ i → i < n → (-(X + 5000) ≤ B 5 s 6 i ∧ B 5 s 6 i ≤ X + 5000) ∧ (l13 ≤ i + P → -X ≤ B 5 s 6 i ∧ B 5 s 6 i ≤ X)) → ∃ B', f_Performance_mixSound_131 K N l13 l12 l11 l10 l9 E S s j F B = some (0, F, B') ∧ plB s B B' ∧ ∀ i, 0 ≤ i → i < n → -(X + 5000) ≤ B' 5 s 6 i ∧ B' 5 s 6 i ≤ X + 5000 := by
  intro d
  induction d with
  | zero =>
    intro N l13 l12 B hd hN p0 s0 l1 h343 hB
    obtain ⟨p, rfl⟩ : ∃ p, N = p + 1 := ⟨N - 1, (by first | decide | omega)⟩
    rw [f_Performance_mixSound_131, if_pos (by unfold r32; omega), if_pos (by unfold r32; omega), if_pos (by first | decide | omega)]
    exact ⟨B, rfl, fun _ _ _ _ _ => rfl, fun i i0 i1 => (hB i i0 i1).1⟩
  | succ d ih =>
    intro N l13 l12 B hd hN p0 s0 l1 h343 hB
    obtain ⟨p, rfl⟩ : ∃ p, N = p + 1 := ⟨N - 1, (by first | decide | omega)⟩
    rw [f_Performance_mixSound_131, if_pos (by unfold r32; omega), if_pos (by unfold r32; omega)]
    by_cases c : l9 ≤ l13
    · rw [if_pos c]
      exact ⟨B, rfl, fun _ _ _ _ _ => rfl, fun i i0 i1 => (hB i i0 i1).1⟩
    obtain ⟨r, e, r0, r1⟩ := C_wave (K := K) (F := F) (B := B) h11 (zush24 l12)
    obtain ⟨t, e', t0, t1⟩ := C_lev (K := K) (F := F) (B := B) (a := l13 - S) (b := E - S) (by first | decide | omega) (by first | decide | omega) (by first | decide | omega)
    have m := mul3 ⟨r0, r1⟩ ⟨t0, t1⟩ h343
    have z := zdvB (a := r * t * B 5 s 343 j) (b := 1024) (y := 4064) (by unfold r32; omega) (by decide) (by decide) m
    rw [if_neg c, e, zb_s, if_pos hs, hP, if_pos (by first | decide | omega), e', zb_s, if_pos hj]
    generalize zdv (r * t * B 5 s 343 j) 1024 = v at z ⊢
    have k0 := hB (l13 - P) (by first | decide | omega) (by first | decide | omega)
    obtain ⟨B', g1, g2, g3⟩ := ih p (l13 + 1) (l12 + l10) (zup4 B 5 s 6 (l13 - P) (B 5 s 6 (l13 - P) + v)) (by first | decide | omega) (by first | decide | omega) (by first | decide | omega) (by first | decide | omega) (by first | decide | omega) (by rw [zup4_v, if_neg (by first | decide | omega)]; exact h343) (fun i i0 i1 => by
      by_cases ei : i = l13 - P
      · rw [ei, zup4_v, if_pos ⟨rfl, rfl, rfl, rfl⟩]
        exact ⟨by have := k0.2 (by first | decide | omega); omega, fun q => (by first | decide | omega)⟩
      · rw [zup4_v, if_neg (by first | decide | omega)]
        exact ⟨(hB i i0 i1).1, fun q => (hB i i0 i1).2 (by first | decide | omega)⟩)
    exact ⟨B', g1, plB_t (plB_w (by first | decide | omega)) g2, g3⟩
theorem C_mix {K : zK} {s p j n X : Int} {F : zF} {B : zB} (hK : 60000 ≤ K.1) (hs : 0 ≤ s ∧ s < K.2 5) (hp : 0 ≤ p ∧ p < K.2 6) (ht : 20 ≤ F 6 p 6 ∧ F 6 p 6 ≤ 300) (P0 : 0 ≤ F 5 s 2 ∧ F 5 s 2 ≤ 2000000) (hj : 0 ≤ j ∧ j < 2000) (n0 : 0 ≤ n ∧ n ≤ 1000) (b0 : 0 ≤ B 5 s 340 j ∧ B 5 s 340 j < 4) (b2 : 0 ≤ B 5 s 342 j ∧ B 5 s 342 j ≤ 127) (b3 : 0 ≤ B 5 s 343 j ∧ B 5 s 343 j ≤ 127) (b4 : 0 ≤ B 5 s 344 j ∧ B 5 s 344 j < B 5 s 345 j ∧ B 5 s 345 j ≤ 500000) (hq : 0 ≤ B 6 p 0 (B 5 s 340 j) ∧ B 6 p 0 (B 5 s 340 j) < K.2 4) (hw : 0 ≤ F 4 (B 6 p 0 (B 5 s 340 j)) 2 ∧ F 4 (B 6 p 0 (B 5 s 340 j)) 2 ≤ 3) (X0 : 0 ≤ X) (hB : ∀ i, 0 ≤ i → i < n → -X ≤ B 5 s 6 i ∧ B 5 s 6 i ≤ X) : ∃ B', f_Performance_mixSound K s p j n F B = some (0, F, B') ∧ plB s B B' ∧ ∀ i, 0 ≤ i → i < n → -(X + 5000) ≤ B' 5 s 6 i ∧ B' 5 s 6 i ≤ X + 5000 := by
  have zm : zmax (F 6 p 6) 1 = F 6 p 6 := by unfold zmax; rw [if_neg (by first | decide | omega)]
  have zS : zldv (B 5 s 344 j * 5000) (F 6 p 6) = B 5 s 344 j * 5000 / F 6 p 6 := zldv_e (by first | decide | omega) (by first | decide | omega) (by first | decide | omega) (by first | decide | omega)
  have zE : zldv (B 5 s 345 j * 5000) (F 6 p 6) = B 5 s 345 j * 5000 / F 6 p 6 := zldv_e (by first | decide | omega) (by first | decide | omega) (by first | decide | omega) (by first | decide | omega)
  have S0 : 0 ≤ B 5 s 344 j * 5000 / F 6 p 6 := Int.ediv_nonneg (by first | decide | omega) (by first | decide | omega)
  have SE : B 5 s 344 j * 5000 / F 6 p 6 ≤ B 5 s 345 j * 5000 / F 6 p 6 := Int.ediv_le_ediv (by first | decide | omega) (by first | decide | omega)
  have E1 : B 5 s 345 j * 5000 / F 6 p 6 ≤ 125000000 := Int.ediv_le_of_le_mul (by first | decide | omega) (by first | decide | omega)
  unfold f_Performance_mixSound
  rw [zm, zS, zE]
  generalize B 5 s 344 j * 5000 / F 6 p 6 = S at S0 SE ⊢
  generalize B 5 s 345 j * 5000 / F 6 p 6 = E at SE E1 ⊢
  have hM : S ≤ zmax S (F 5 s 2) ∧ F 5 s 2 ≤ zmax S (F 5 s 2) ∧ zmax S (F 5 s 2) ≤ S + F 5 s 2 := by unfold zmax; split <;> omega
  have hL : zmin (E + 400) (F 5 s 2 + n) ≤ E + 400 ∧ zmin (E + 400) (F 5 s 2 + n) ≤ F 5 s 2 + n ∧ 0 ≤ zmin (E + 400) (F 5 s 2 + n) := by unfold zmin; split <;> omega
  rw [if_pos hp, if_pos (by unfold r32; omega), if_pos (by unfold r32; omega), if_pos hs, if_pos hj, if_pos (by unfold r32; omega), if_pos (lI_n0 (by first | decide | omega) (by unfold r64; omega)), if_pos (by unfold r32; omega), if_pos (by unfold r32; omega), if_pos (by unfold r32; omega), if_pos (by unfold r32; omega), if_pos (by unfold r32; omega), if_pos (by unfold r32; omega), if_pos (by unfold r32; omega)]
  by_cases c : zmax S (F 5 s 2) < zmin (E + 400) (F 5 s 2 + n)
  · obtain ⟨r, e⟩ := C_turn (K := K) (F := F) (B := B) b2
    rw [if_pos c, e, zb_s, if_pos b0, if_pos hq]
    refine C_m131 (X := X) hs hw rfl P0 hj n0 S0 SE (by first | decide | omega) ⟨hL.2.1, hL.1⟩ hL.2.2 1400 K.1 _ _ B ?_ (by first | decide | omega) hM.2.1 hM.1 (by first | decide | omega) b3 (fun i i0 i1 => ⟨by have := hB i i0 i1; omega, fun _ => hB i i0 i1⟩)
    have : zmin (E + 400) (F 5 s 2 + n) ≤ F 5 s 2 + 1000 := by omega
    omega
  · rw [if_neg c]
    exact ⟨B, rfl, fun _ _ _ _ _ => rfl, fun i i0 i1 => by have := hB i i0 i1; omega⟩
end
end
section
section
/-! ===== play: the class's loops ===== -/
section
variable {K : zK} {s : Int}
/-- the coder's state -/
def PCw (s : Int) (F : zF) : Prop := (-32768 ≤ F 5 s 11 ∧ F 5 s 11 ≤ 32767) ∧ (-32768 ≤ F 5 s 12 ∧ F 5 s 12 ≤ 32767) ∧ (0 ≤ F 5 s 13 ∧ F 5 s 13 ≤ 88)
def ncQ (s : Int) (F : zF) (B : zB) (x : zO) : Prop := ∃ r F', x = some (r, F', B) ∧ plF s F F' ∧ (∀ k, k = 2 ∨ k = 3 ∨ k = 11 → F' 5 s k = F 5 s k) ∧ PCw s F'
theorem C_n124 {F : zF} {B : zB} {l3 v : Int} (hs : 0 ≤ s ∧ s < K.2 5) (h : PCw s F) (hv : -200000 ≤ v ∧ v ≤ 200000) : ncQ s F B (f_Performance_nextCode_124 K l3 s v F B) := by
  obtain ⟨h1, h2, h3⟩ := h
  have m := zt15.2 ⟨(l3 % 8).toNat, (by first | decide | omega)⟩
  rw [show (((⟨(l3 % 8).toNat, (by first | decide | omega)⟩ : Fin 8).val : Nat) : Int) = l3 % 8 by show (((l3 % 8).toNat : Nat) : Int) = l3 % 8; omega] at m
  have q1 : -200000 ≤ zmin 32767 v ∧ zmin 32767 v ≤ 32767 := by unfold zmin; split <;> omega
  unfold f_Performance_nextCode_124
  rw [zand7]
  generalize ztv 15 (l3 % 8) = u at m ⊢
  have q2 : -1 ≤ zmin 88 (F 5 s 13 + u) ∧ zmin 88 (F 5 s 13 + u) ≤ 88 := by unfold zmin; split <;> omega
  rw [if_pos (by unfold r32; omega), if_pos (by unfold r32; omega), if_pos hs, zt15.1, if_pos (by first | decide | omega), if_pos (by unfold r32; omega), if_pos (by unfold r32; omega)]
  refine ⟨_, _, rfl, plF_t (plF_w (by first | decide | omega)) (plF_w (by first | decide | omega)), fun k hk => by rw [zup3_v, if_neg (by first | decide | omega), zup3_v, if_neg (by first | decide | omega)], ?_⟩
  unfold PCw
  rw [zup3_v, if_neg (by first | decide | omega), zup3_v, if_neg (by first | decide | omega), zup3_v, if_neg (by first | decide | omega), zup3_v, if_pos ⟨rfl, rfl, rfl⟩, zup3_v, if_pos ⟨rfl, rfl, rfl⟩]
  refine ⟨h1, ?_, ?_⟩
  · unfold zmax; split <;> omega
  · unfold zmax; split <;> omega
theorem nc_s {F : zF} {B : zB} {N : Nat} {l6 l5 l4 l2 l3 l1 : Int} (h6 : 0 < l6 ∧ l6 ≤ 4) (h5 : 0 ≤ l5 ∧ l5 ≤ 32767) (h2 : 0 ≤ l2 ∧ l2 ≤ 70000) (h3 : r32 l3) (h1 : 0 ≤ l1 ∧ l1 ≤ 32767) (h : ∀ t a b c, 0 ≤ t ∧ t ≤ 32767 → l4 ≤ a ∧ a ≤ l4 + 32767 → 0 ≤ b ∧ b ≤ 70000 → r32 c → ncQ s F B (f_Performance_nextCode_47 K N (zdv l6 2) t a b c l1 s F B)) : ncQ s F B (f_Performance_nextCode_47 K (N + 1) l6 l5 l4 l2 l3 l1 s F B) := by
  have k : ∀ a b c, l4 ≤ a ∧ a ≤ l4 + 32767 → 0 ≤ b ∧ b ≤ 70000 → r32 c → ncQ s F B (f_Performance_nextCode_75 (f_Performance_nextCode_47 K N) K l6 a b c l1 s F B) := fun a b c ha hb hc => by
    unfold f_Performance_nextCode_75 f_Performance_nextCode_90
    rw [if_pos (by unfold r32; omega)]
    by_cases e : l6 = 4
    · rw [if_pos e, zdv_e h1.1 (by unfold r32; omega) (by decide) (by decide)]; exact h _ a b c (by first | decide | omega) ha hb hc
    · rw [if_neg e, zdv_e h1.1 (by unfold r32; omega) (by decide) (by decide)]; exact h _ a b c (by first | decide | omega) ha hb hc
  rw [f_Performance_nextCode_47, if_pos (by unfold r32; omega), if_neg (by first | decide | omega), if_pos (by unfold r32; omega), if_pos (by unfold r32; omega)]
  by_cases e : l2 < l5
  · rw [if_pos e]; exact k _ _ _ (by first | decide | omega) h2 h3
  · rw [if_neg e]; exact k _ _ _ (by first | decide | omega) (by first | decide | omega) (toI_r _)
theorem C_nxt {F : zF} {B : zB} (hK : 60000 ≤ K.1) (hs : 0 ≤ s ∧ s < K.2 5) (h : PCw s F) : ncQ s F B (f_Performance_nextCode K s F B) := by
  have h' := h
  obtain ⟨h1, h2, h3⟩ := h
  have m := zt14.2 ⟨(F 5 s 13).toNat, (by first | decide | omega)⟩
  rw [show (((⟨(F 5 s 13).toNat, (by first | decide | omega)⟩ : Fin 89).val : Nat) : Int) = F 5 s 13 by show (((F 5 s 13).toNat : Nat) : Int) = F 5 s 13; omega] at m
  have key : ∀ t : Int, t = 0 ∨ t = 8 → ncQ s F B (f_Performance_nextCode_29 K (F 5 s 11 - F 5 s 12) (ztv 14 (F 5 s 13)) s t F B) := fun t ht => by
    generalize ztv 14 (F 5 s 13) = L at m ⊢
    have za : 0 ≤ zabs (F 5 s 11 - F 5 s 12) ∧ zabs (F 5 s 11 - F 5 s 12) ≤ 70000 := by unfold zabs; split <;> omega
    obtain ⟨N, hN⟩ : ∃ N, K.1 = N + 1 + 1 + 1 + 1 := ⟨K.1 - 4, (by first | decide | omega)⟩
    unfold f_Performance_nextCode_29
    rw [if_pos (by unfold r32; omega), hN, zdv_e (a := L) (by first | decide | omega) (by unfold r32; omega) (by decide) (by decide)]
    refine nc_s (by first | decide | omega) (by first | decide | omega) za (by unfold r32; omega) (by first | decide | omega) (fun t1 a1 b1 c1 q1 q2 q3 q4 => ?_)
    rw [show zdv 4 2 = 2 by decide]
    refine nc_s (by first | decide | omega) q1 q3 q4 (by first | decide | omega) (fun t2 a2 b2 c2 u1 u2 u3 u4 => ?_)
    rw [show zdv 2 2 = 1 by decide]
    refine nc_s (by first | decide | omega) u1 u3 u4 (by first | decide | omega) (fun t3 a3 b3 c3 v1 v2 v3 v4 => ?_)
    rw [show zdv 1 2 = 0 by decide, f_Performance_nextCode_47, if_pos (by decide), if_pos (by decide), if_pos v4]
    by_cases e : c3 < 8
    · rw [if_pos e, if_pos hs]; exact C_n124 hs h' (by first | decide | omega)
    · rw [if_neg e, if_pos hs]; exact C_n124 hs h' (by first | decide | omega)
  unfold f_Performance_nextCode
  rw [if_pos hs, zt14.1, if_pos (by first | decide | omega), if_pos (by unfold r32; omega)]
  by_cases e : 0 ≤ F 5 s 11 - F 5 s 12
  · rw [if_pos e]; exact key 0 (Or.inl rfl)
  · rw [if_neg e]; exact key 8 (Or.inr rfl)
theorem C_pl45 {n P : Int} {F0 : zF} {B0 : zB} (hK : 60000 ≤ K.1) (hs : 0 ≤ s ∧ s < K.2 5) (n0 : 0 ≤ n ∧ n ≤ 1000) : ∀ (d N : Nat) (i : Int) (F : zF) (B : zB), i + d = n → 0 ≤ i → d < N → plF s F0 F → plB s B0 B → F 5 s 2 = P → PCw s F → (∀ j, 0 ≤ j → j < n → -10000000 ≤ B 5 s 6 j ∧ B 5 s 6 j ≤ 10000000) → ∃ r F' B', f_Performance_playOn_45 K N i s n F B = some (r, F', B') ∧ r = P + n ∧ plF s F0 F' ∧ plB s B0 B' ∧ F' 5 s 2 = P + n ∧ F' 5 s 3 = n ∧ PCw s F' := by
  intro d
  induction d with
  | zero =>
    intro N i F B hi i0 hN f b hP hC hB
    obtain ⟨p, rfl⟩ : ∃ p, N = p + 1 := ⟨N - 1, (by first | decide | omega)⟩
    rw [f_Performance_playOn_45, if_pos (by unfold r32; omega), if_pos (by unfold r32; omega), if_pos (by first | decide | omega), if_pos hs]
    refine ⟨_, _, B, rfl, by rw [hP], plF_t f (plF_t (plF_w (by first | decide | omega)) (plF_w (by first | decide | omega))), b, by rw [zup3_v, if_pos ⟨rfl, rfl, rfl⟩, hP], by rw [zup3_v, if_neg (by first | decide | omega), zup3_v, if_pos ⟨rfl, rfl, rfl⟩], ?_⟩
    unfold PCw at *
    rw [zup3_v, if_neg (by first | decide | omega), zup3_v, if_neg (by first | decide | omega), zup3_v, if_neg (by first | decide | omega), zup3_v, if_neg (by first | decide | omega), zup3_v, if_neg (by first | decide | omega), zup3_v, if_neg (by first | decide | omega)]
    exact hC
  | succ d ih =>
    intro N i F B hi i0 hN f b hP hC hB
    obtain ⟨p, rfl⟩ : ∃ p, N = p + 1 := ⟨N - 1, (by first | decide | omega)⟩
    have b6 := hB i i0 (by first | decide | omega)
    have z1 : -10000000 ≤ zmin 32767 (B 5 s 6 i) ∧ zmin 32767 (B 5 s 6 i) ≤ 32767 := by unfold zmin; split <;> omega
    have z2 : -32768 ≤ zmax (-32768) (zmin 32767 (B 5 s 6 i)) ∧ zmax (-32768) (zmin 32767 (B 5 s 6 i)) ≤ 32767 := by
      generalize zmin 32767 (B 5 s 6 i) = u at z1 ⊢
      unfold zmax; split <;> omega
    rw [f_Performance_playOn_45, if_pos (by unfold r32; omega), if_pos (by unfold r32; omega), if_neg (by first | decide | omega), if_pos hs, if_pos (by first | decide | omega), if_pos (by unfold r32; omega), if_pos (by unfold r32; omega)]
    generalize zmax (-32768) (zmin 32767 (B 5 s 6 i)) = v at z2 ⊢
    have z3 := zdv2 (d := v - F 5 s 11) (by have := hC.1; unfold r32; omega)
    have z4 : -32768 ≤ F 5 s 11 + zdv (v - F 5 s 11) 2 ∧ F 5 s 11 + zdv (v - F 5 s 11) 2 ≤ 32767 := by
      have := hC.1
      rcases Int.le_total 0 (v - F 5 s 11) with q | q
      · have := z3.1 q; omega
      · have := z3.2 q; omega
    generalize F 5 s 11 + zdv (v - F 5 s 11) 2 = x at z4 ⊢
    have hC1 : PCw s (zup3 F 5 s 11 x) := by
      unfold PCw at *
      rw [zup3_v, if_pos ⟨rfl, rfl, rfl⟩, zup3_v, if_neg (by first | decide | omega), zup3_v, if_neg (by first | decide | omega)]
      exact ⟨z4, hC.2⟩
    obtain ⟨r, F1, e, g1, g2, g3⟩ := C_nxt (B := zup4 B 5 s 4 i x) hK hs hC1
    rw [e, zb_s]
    exact ih p (i + 1) F1 _ (by first | decide | omega) (by first | decide | omega) (by first | decide | omega) (plF_t f (plF_t (plF_w (by first | decide | omega)) g1)) (plB_t b (plB_t (plB_w (by first | decide | omega)) (plB_w (by first | decide | omega)))) (by rw [g2 2 (by first | decide | omega), zup3_v, if_neg (by first | decide | omega)]; exact hP) g3 (fun j j0 j1 => by rw [zup4_v, if_neg (by first | decide | omega), zup4_v, if_neg (by first | decide | omega)]; exact hB j j0 j1)
theorem C_pl22 {p n c : Int} {F : zF} {B0 : zB} (hK : 60000 ≤ K.1) (hs : 0 ≤ s ∧ s < K.2 5) (hp : 0 ≤ p ∧ p < K.2 6) (ht : 20 ≤ F 6 p 6 ∧ F 6 p 6 ≤ 300) (P0 : 0 ≤ F 5 s 2 ∧ F 5 s 2 ≤ 2000000) (n0 : 0 ≤ n ∧ n ≤ 1000) (hc : F 5 s 0 = c ∧ 0 ≤ c ∧ c ≤ 2000) (hS : SB s c B0) (hq : ∀ j, 0 ≤ j → j < c → (0 ≤ B0 6 p 0 (B0 5 s 340 j) ∧ B0 6 p 0 (B0 5 s 340 j) < K.2 4) ∧ (0 ≤ F 4 (B0 6 p 0 (B0 5 s 340 j)) 2 ∧ F 4 (B0 6 p 0 (B0 5 s 340 j)) 2 ≤ 3)) : ∀ (d N : Nat) (i : Int) (B : zB), i + d = c → 0 ≤ i → d < N → plB s B0 B → (∀ j, 0 ≤ j → j < n → -(5000 * i) ≤ B 5 s 6 j ∧ B 5 s 6 j ≤ 5000 * i) → ∃ B', f_Performance_playOn_22 K N i s p n F B = f_Performance_playOn_45 K K.1 0 s n F B' ∧ plB s B0 B' ∧ ∀ j, 0 ≤ j → j < n → -10000000 ≤ B' 5 s 6 j ∧ B' 5 s 6 j ≤ 10000000 := by
  intro d
  induction d with
  | zero =>
    intro N i B hi i0 hN b hB
    obtain ⟨q, rfl⟩ : ∃ q, N = q + 1 := ⟨N - 1, (by first | decide | omega)⟩
    rw [f_Performance_playOn_22, if_pos hs, if_pos (by unfold r32; omega), hc.1, if_pos (by unfold r32; omega), if_pos (by first | decide | omega)]
    exact ⟨B, rfl, b, fun j j0 j1 => by have := hB j j0 j1; omega⟩
  | succ d ih =>
    intro N i B hi i0 hN b hB
    obtain ⟨q, rfl⟩ : ∃ q, N = q + 1 := ⟨N - 1, (by first | decide | omega)⟩
    obtain ⟨a0, a1, a2, a3, a4, a5, a6⟩ := hS i i0 (by first | decide | omega)
    obtain ⟨q0, q1⟩ := hq i i0 (by first | decide | omega)
    have e5 : ∀ k x, 340 ≤ k → B 5 s k x = B0 5 s k x := fun k x hk => b 5 s k x (by first | decide | omega)
    have e6 : ∀ x, B 6 p 0 x = B0 6 p 0 x := fun x => b 6 p 0 x (by first | decide | omega)
    obtain ⟨B1, g1, g2, g3⟩ := C_mix (p := p) (j := i) (X := 5000 * i) (B := B) hK hs hp ht P0 (by first | decide | omega) n0 (by rw [e5 340 i (by decide)]; exact a0) (by rw [e5 342 i (by decide)]; exact a2) (by rw [e5 343 i (by decide)]; exact a3) (by rw [e5 344 i (by decide), e5 345 i (by decide)]; exact ⟨a4, a5, a6⟩) (by rw [e5 340 i (by decide), e6]; exact q0) (by rw [e5 340 i (by decide), e6]; exact q1) (by first | decide | omega) hB
    rw [f_Performance_playOn_22, if_pos hs, if_pos (by unfold r32; omega), hc.1, if_pos (by unfold r32; omega), if_neg (by first | decide | omega), g1, zb_s]
    exact ih q (i + 1) B1 (by first | decide | omega) (by first | decide | omega) (by first | decide | omega) (plB_t b g2) (fun j j0 j1 => by have := g3 j j0 j1; omega)
theorem C_pl2 {p n : Int} {F : zF} {B0 : zB} (hs : 0 ≤ s ∧ s < K.2 5) (n0 : 0 ≤ n ∧ n ≤ 1000) : ∀ (d N : Nat) (i : Int) (B : zB), i + d = n → 0 ≤ i → d < N → plB s B0 B → (∀ j, 0 ≤ j → j < i → B 5 s 6 j = 0) → ∃ B', f_Performance_playOn_2 K N i s p n F B = f_Performance_playOn_22 K K.1 0 s p n F B' ∧ plB s B0 B' ∧ ∀ j, 0 ≤ j → j < n → B' 5 s 6 j = 0 := by
  intro d
  induction d with
  | zero =>
    intro N i B hi i0 hN b hB
    obtain ⟨q, rfl⟩ : ∃ q, N = q + 1 := ⟨N - 1, (by first | decide | omega)⟩
    rw [f_Performance_playOn_2, if_pos (by unfold r32; omega), if_pos (by unfold r32; omega), if_pos (by first | decide | omega)]
    exact ⟨B, rfl, b, fun j j0 j1 => hB j j0 (by first | decide | omega)⟩
  | succ d ih =>
    intro N i B hi i0 hN b hB
    obtain ⟨q, rfl⟩ : ∃ q, N = q + 1 := ⟨N - 1, (by first | decide | omega)⟩
    rw [f_Performance_playOn_2, if_pos (by unfold r32; omega), if_pos (by unfold r32; omega), if_neg (by first | decide | omega), if_pos hs, if_pos (by first | decide | omega)]
    refine ih q (i + 1) _ (by first | decide | omega) (by first | decide | omega) (by first | decide | omega) (plB_t b (plB_w (by first | decide | omega))) (fun j j0 j1 => ?_)
    by_cases e : j = i
    · rw [e, zup4_v, if_pos ⟨rfl, rfl, rfl, rfl⟩]
    · rw [zup4_v, if_neg (by first | decide | omega)]; exact hB j j0 (by first | decide | omega)
theorem C_play {p n c : Int} {F : zF} {B : zB} (hK : 60000 ≤ K.1) (hs : 0 ≤ s ∧ s < K.2 5) (hp : 0 ≤ p ∧ p < K.2 6) (ht : 20 ≤ F 6 p 6 ∧ F 6 p 6 ≤ 300) (P0 : 0 ≤ F 5 s 2 ∧ F 5 s 2 ≤ 2000000) (hC : PCw s F) (n0 : 0 ≤ n ∧ n ≤ 1000) (hc : F 5 s 0 = c ∧ 0 ≤ c ∧ c ≤ 2000) (hS : SB s c B) (hq : ∀ j, 0 ≤ j → j < c → (0 ≤ B 6 p 0 (B 5 s 340 j) ∧ B 6 p 0 (B 5 s 340 j) < K.2 4) ∧ (0 ≤ F 4 (B 6 p 0 (B 5 s 340 j)) 2 ∧ F 4 (B 6 p 0 (B 5 s 340 j)) 2 ≤ 3)) : ∃ r F' B', f_Performance_playOn K s p n F B = some (r, F', B') ∧ r = F 5 s 2 + n ∧ plF s F F' ∧ plB s B B' ∧ F' 5 s 2 = F 5 s 2 + n ∧ F' 5 s 3 = n ∧ PCw s F' := by
  obtain ⟨B1, a1, a2, a3⟩ := C_pl2 (K := K) (p := p) (F := F) (B0 := B) hs n0 n.toNat K.1 0 B (by first | decide | omega) (by decide) (by first | decide | omega) (fun _ _ _ _ _ => rfl) (fun j j0 j1 => (by first | decide | omega))
  obtain ⟨B2, b1, b2, b3⟩ := C_pl22 (p := p) (F := F) (B0 := B) hK hs hp ht P0 n0 hc hS hq c.toNat K.1 0 B1 (by first | decide | omega) (by decide) (by first | decide | omega) a2 (fun j j0 j1 => by rw [a3 j j0 j1]; omega)
  unfold f_Performance_playOn
  rw [a1, b1]
  exact C_pl45 (F0 := F) (B0 := B) hK hs n0 n.toNat K.1 0 F B2 (by first | decide | omega) (by decide) (by first | decide | omega) (fun _ _ _ _ => rfl) b2 rfl hC b3
end
end
end
