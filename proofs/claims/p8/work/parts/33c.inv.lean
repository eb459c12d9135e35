section
/-! ===== one invariant: what calls that touch no piece keep ===== -/
theorem PD_e {K K' : zK} {V p w : Int} {F F' : zF} {B B' : zB} {Fm Fm' : zF} {Bm Bm' : zB} (h : PD K V p w F B Fm Bm) (hk : K.2 5 ≤ K'.2 5) (f6 : ∀ k, 9 ≤ k → k ≤ 11 → F' 6 p k = F 6 p k) (f5 : 0 ≤ F 6 p 9 → F' 5 (F 6 p 9) = F 5 (F 6 p 9)) (b5 : 0 ≤ F 6 p 9 → B' 5 (F 6 p 9) = B 5 (F 6 p 9)) (fm : ∀ k, Fm' 13 w k = Fm 13 w k) (bm : ∀ k x, Bm' 13 w k x = Bm 13 w k x) : PD K' V p w F' B' Fm' Bm' := by
  obtain ⟨h1, h2, h3, h4, h5, h6, h7⟩ := h
  have e9 := f6 9 (by first | decide | omega) (by first | decide | omega)
  have e10 := f6 10 (by first | decide | omega) (by first | decide | omega)
  have e11 := f6 11 (by first | decide | omega) (by first | decide | omega)
  unfold PD
  rw [e9, e10, e11, fm 53]
  refine ⟨h1, h2, (by first | decide | omega), fun z => ?_, fun z => ?_, fun z => ?_, h7⟩
  · have := h4 z
    unfold rwS at *
    rw [f5 z]; exact this
  · obtain ⟨z0, K0, F0, B0, F1, B1, a1, a2, a3, a4, a5, a6, a7⟩ := h5 z
    exact ⟨z0, K0, F0, B0, F1, B1, a1, a2, PK_e a3 (fun _ => Int.le_refl _) (fun _ _ => rfl) rfl (fun _ _ _ => rfl) (fun _ _ _ => rfl) (fun _ _ _ _ _ _ => rfl) (fun _ _ _ _ _ _ => rfl) (fun k _ _ => fm k) (fun k x _ => bm k x), a4, by rw [f5 z0]; exact a5, by rw [f5 z0]; exact a6, fun k x hk => by rw [b5 z0]; exact a7 k x hk⟩
  · obtain ⟨z1, c, hc⟩ := h6 z
    have z0 := (h5 z1).1
    exact ⟨z1, c, PFD_e hc (f5 z0) (b5 z0) (fun k _ => fm k) (fun k x _ _ => bm k x)⟩
/-- a kept piece's sounds -/
def SDk (K : zK) (p w : Int) (F : zF) (B : zB) (Fm : zF) (Bm : zB) : Prop := 0 ≤ p → PD K (F 6 p 1) p w F B Fm Bm
theorem SLD_of {K : zK} {p w : Int} {F : zF} {B : zB} {Fm : zF} {Bm : zB} (h : SL K p w F B Fm Bm) (d : SDk K p w F B Fm Bm) : SLD K p w F B Fm Bm := by
  rcases h with h | ⟨a, b, V, c, e⟩
  · exact Or.inl h
  · have := d a
    rw [c.1.2.2.2.1] at this
    exact Or.inr ⟨a, b, V, c, e, this⟩
/-- which piece owns which object of sounds, of study, of lines -/
def IS (K : zK) (F : zF) : Prop := (∀ y, 0 ≤ y → y < K.2 6 → 0 ≤ F 6 y 9 → rwS (F 6 y 9) F) ∧ ∀ k, k = 8 ∨ k = 9 ∨ k = 12 → ∀ y y', 0 ≤ y → y < K.2 6 → 0 ≤ y' → y' < K.2 6 → ¬ y = y' → 0 ≤ F 6 y k → ¬ F 6 y k = F 6 y' k
/-- the cells of the objects that lines, sounds and study keep: bounds that hold always -/
def LXu (l : Int) (F : zF) (B : zB) : Prop := (0 ≤ F 2 l 0 ∧ F 2 l 0 ≤ 100) ∧ (0 ≤ F 2 l 4 ∧ F 2 l 4 ≤ 3200) ∧ ∀ j, r64 (B 2 l 1 j) ∧ (0 ≤ B 2 l 2 j ∧ B 2 l 2 j ≤ 200) ∧ (0 ≤ B 2 l 5 j ∧ B 2 l 5 j ≤ 3200) ∧ (0 ≤ B 2 l 6 j ∧ B 2 l 6 j ≤ 640006) ∧ (0 ≤ B 2 l 7 j ∧ B 2 l 7 j ≤ 100) ∧ (0 ≤ B 2 l 8 j ∧ B 2 l 8 j ≤ 100000000) ∧ (0 ≤ B 2 l 10 j ∧ B 2 l 10 j ≤ 1152921504606846976) ∧ (0 ≤ B 2 l 11 j ∧ B 2 l 11 j ≤ 100) ∧ (0 ≤ B 2 l 12 j ∧ B 2 l 12 j ≤ 800)
def PXu (cc s : Int) (F : zF) : Prop := (0 ≤ F 5 s 2 ∧ F 5 s 2 ≤ cc) ∧ (0 ≤ F 5 s 3 ∧ F 5 s 3 ≤ 1000) ∧ (-32768 ≤ F 5 s 11 ∧ F 5 s 11 ≤ 32767) ∧ (-32768 ≤ F 5 s 12 ∧ F 5 s 12 ≤ 32767) ∧ (0 ≤ F 5 s 13 ∧ F 5 s 13 ≤ 88)
def STu (t : Int) (F : zF) (B : zB) : Prop := (0 ≤ F 9 t 0 ∧ F 9 t 0 ≤ 800) ∧ (0 ≤ F 9 t 2 ∧ F 9 t 2 ≤ 300) ∧ (∀ j, 0 ≤ B 9 t 1 j ∧ B 9 t 1 j ≤ 1000000000000) ∧ (∀ k j, 280 ≤ k → k ≤ 283 → -1 ≤ B 9 t k j ∧ B 9 t k j ≤ 199) ∧ ∀ j, (-1 ≤ B 9 t 5 j ∧ B 9 t 5 j ≤ 200) ∧ (-1 ≤ B 9 t 6 j ∧ B 9 t 6 j ≤ 200) ∧ (-1 ≤ B 9 t 7 j ∧ B 9 t 7 j ≤ 200) ∧ (-1 ≤ B 9 t 8 j ∧ B 9 t 8 j ≤ 200) ∧ (0 ≤ B 9 t 9 j ∧ B 9 t 9 j ≤ 1) ∧ r32 (B 9 t 10 j)
def PMu (cc i : Int) (Fm : zF) : Prop := (0 ≤ Fm 13 i 65 ∧ Fm 13 i 65 ≤ cc) ∧ (0 ≤ Fm 13 i 66 ∧ Fm 13 i 66 ≤ 1000) ∧ (-32768 ≤ Fm 13 i 67 ∧ Fm 13 i 67 ≤ 32767) ∧ (-32768 ≤ Fm 13 i 68 ∧ Fm 13 i 68 ≤ 32767) ∧ (0 ≤ Fm 13 i 69 ∧ Fm 13 i 69 ≤ 88)
def TQm (Bm : zB) : Prop := (∀ x, 0 ≤ x → x < 89 → 7 ≤ Bm 14 0 96 x ∧ Bm 14 0 96 x ≤ 32767) ∧ (∀ x, 0 ≤ x → x < 8 → -1 ≤ Bm 14 0 97 x ∧ Bm 14 0 97 x ≤ 8) ∧ ∀ x, 0 ≤ x → x < 24 → 0 ≤ Bm 14 0 106 x ∧ Bm 14 0 106 x ≤ 1000
theorem TQm_e {B B' : zB} (h : TQm B) (f : ∀ k x, k = 96 ∨ k = 97 ∨ k = 106 → B' 14 0 k x = B 14 0 k x) : TQm B' := by
  obtain ⟨h1, h2, h3⟩ := h
  refine ⟨fun x x0 x1 => ?_, fun x x0 x1 => ?_, fun x x0 x1 => ?_⟩
  · rw [f 96 x (by first | decide | omega)]; exact h1 x x0 x1
  · rw [f 97 x (by first | decide | omega)]; exact h2 x x0 x1
  · rw [f 106 x (by first | decide | omega)]; exact h3 x x0 x1
/-- how many pieces have no such object yet: objects are no more than pieces -/
def ng3 (n a0 a1 a2 : Int) : Int := (if 0 < n ∧ a0 < 0 then 1 else 0) + (if 1 < n ∧ a1 < 0 then 1 else 0) + (if 2 < n ∧ a2 < 0 then 1 else 0)
theorem ng3_0 (n a0 a1 a2 : Int) : 0 ≤ ng3 n a0 a1 a2 := by
  unfold ng3
  split <;> split <;> split <;> omega
theorem ng3_e {n a0 a1 a2 b0 b1 b2 : Int} (h0 : 0 < n → b0 = a0) (h1 : 1 < n → b1 = a1) (h2 : 2 < n → b2 = a2) : ng3 n b0 b1 b2 = ng3 n a0 a1 a2 := by
  unfold ng3
  by_cases c0 : 0 < n
  · rw [h0 c0]
    by_cases c1 : 1 < n
    · rw [h1 c1]
      by_cases c2 : 2 < n
      · rw [h2 c2]
      · rw [if_neg (show ¬ (2 < n ∧ b2 < 0) from fun q => c2 q.1), if_neg (show ¬ (2 < n ∧ a2 < 0) from fun q => c2 q.1)]
    · rw [if_neg (show ¬ (1 < n ∧ b1 < 0) from fun q => c1 q.1), if_neg (show ¬ (1 < n ∧ a1 < 0) from fun q => c1 q.1), if_neg (show ¬ (2 < n ∧ b2 < 0) from fun q => (by first | decide | omega)), if_neg (show ¬ (2 < n ∧ a2 < 0) from fun q => (by first | decide | omega))]
  · rw [if_neg (show ¬ (0 < n ∧ b0 < 0) from fun q => c0 q.1), if_neg (show ¬ (0 < n ∧ a0 < 0) from fun q => c0 q.1), if_neg (show ¬ (1 < n ∧ b1 < 0) from fun q => (by first | decide | omega)), if_neg (show ¬ (1 < n ∧ a1 < 0) from fun q => (by first | decide | omega)), if_neg (show ¬ (2 < n ∧ b2 < 0) from fun q => (by first | decide | omega)), if_neg (show ¬ (2 < n ∧ a2 < 0) from fun q => (by first | decide | omega))]
def ngk (k : Nat) (K : zK) (F : zF) : Int := ng3 (K.2 6) (F 6 0 k) (F 6 1 k) (F 6 2 k)
theorem ngk_e {k : Nat} {K K' : zK} {F F' : zF} (h6 : K'.2 6 = K.2 6) (f : ∀ y, 0 ≤ y → y < K.2 6 → F' 6 y k = F 6 y k) : ngk k K' F' = ngk k K F := by
  unfold ngk
  rw [h6]
  exact ng3_e (fun c => f 0 (by first | decide | omega) c) (fun c => f 1 (by first | decide | omega) c) (fun c => f 2 (by first | decide | omega) c)
/-- one piece gets its object -/
theorem ngk_o {k : Nat} {K K' : zK} {q : Int} {F F' : zF} (h6 : K'.2 6 = K.2 6) (h3 : K.2 6 ≤ 3) (hq : 0 ≤ q ∧ q < K.2 6) (n : F 6 q k < 0) (n' : 0 ≤ F' 6 q k) (f : ∀ y, 0 ≤ y → y < K.2 6 → ¬ y = q → F' 6 y k = F 6 y k) : ngk k K' F' + 1 = ngk k K F := by
  unfold ngk
  rw [h6]
  have : q = 0 ∨ q = 1 ∨ q = 2 := by omega
  unfold ng3
  rcases this with rfl | rfl | rfl
  · rw [if_neg (show ¬ (0 < K.2 6 ∧ F' 6 0 k < 0) from fun z => (by first | decide | omega)), if_pos (show 0 < K.2 6 ∧ F 6 0 k < 0 from ⟨hq.2, n⟩)]
    have e := ng3_e (n := K.2 6) (a0 := 0) (b0 := 0) (a1 := F 6 1 k) (b1 := F' 6 1 k) (a2 := F 6 2 k) (b2 := F' 6 2 k) (fun _ => rfl) (fun c => f 1 (by first | decide | omega) c (by first | decide | omega)) (fun c => f 2 (by first | decide | omega) c (by first | decide | omega))
    unfold ng3 at e
    omega
  · rw [if_neg (show ¬ (1 < K.2 6 ∧ F' 6 1 k < 0) from fun z => (by first | decide | omega)), if_pos (show 1 < K.2 6 ∧ F 6 1 k < 0 from ⟨hq.2, n⟩)]
    have e := ng3_e (n := K.2 6) (a0 := F 6 0 k) (b0 := F' 6 0 k) (a1 := 0) (b1 := 0) (a2 := F 6 2 k) (b2 := F' 6 2 k) (fun c => f 0 (by first | decide | omega) c (by first | decide | omega)) (fun _ => rfl) (fun c => f 2 (by first | decide | omega) c (by first | decide | omega))
    unfold ng3 at e
    omega
  · rw [if_neg (show ¬ (2 < K.2 6 ∧ F' 6 2 k < 0) from fun z => (by first | decide | omega)), if_pos (show 2 < K.2 6 ∧ F 6 2 k < 0 from ⟨hq.2, n⟩)]
    have e := ng3_e (n := K.2 6) (a0 := F 6 0 k) (b0 := F' 6 0 k) (a1 := F 6 1 k) (b1 := F' 6 1 k) (a2 := 0) (b2 := 0) (fun c => f 0 (by first | decide | omega) c (by first | decide | omega)) (fun c => f 1 (by first | decide | omega) c (by first | decide | omega)) (fun _ => rfl)
    unfold ng3 at e
    omega
/-- a new piece -/
theorem ngk_n {k : Nat} {K K' : zK} {F F' : zF} (h0 : 0 ≤ K.2 6) (h3 : K.2 6 ≤ 2) (h6 : K'.2 6 = K.2 6 + 1) (n : F' 6 (K.2 6) k < 0) (f : ∀ y, 0 ≤ y → y < K.2 6 → F' 6 y k = F 6 y k) : ngk k K' F' = ngk k K F + 1 := by
  unfold ngk
  rw [h6]
  have o : K.2 6 = 0 ∨ K.2 6 = 1 ∨ K.2 6 = 2 := by omega
  unfold ng3
  rcases o with z | z | z
  · rw [z] at n ⊢
    rw [if_pos (show (0 : Int) < 0 + 1 ∧ F' 6 0 k < 0 from ⟨by decide, n⟩), if_neg (show ¬ ((1 : Int) < 0 + 1 ∧ F' 6 1 k < 0) from fun q => (by first | decide | omega)), if_neg (show ¬ ((2 : Int) < 0 + 1 ∧ F' 6 2 k < 0) from fun q => (by first | decide | omega)), if_neg (show ¬ ((0 : Int) < 0 ∧ F 6 0 k < 0) from fun q => (by first | decide | omega)), if_neg (show ¬ ((1 : Int) < 0 ∧ F 6 1 k < 0) from fun q => (by first | decide | omega)), if_neg (show ¬ ((2 : Int) < 0 ∧ F 6 2 k < 0) from fun q => (by first | decide | omega))]
    omega
  · have e0 := f 0 (by first | decide | omega) (by first | decide | omega)
    rw [z] at n ⊢
    rw [e0, if_pos (show (1 : Int) < 1 + 1 ∧ F' 6 1 k < 0 from ⟨by decide, n⟩), if_neg (show ¬ ((2 : Int) < 1 + 1 ∧ F' 6 2 k < 0) from fun q => (by first | decide | omega)), if_neg (show ¬ ((1 : Int) < 1 ∧ F 6 1 k < 0) from fun q => (by first | decide | omega)), if_neg (show ¬ ((2 : Int) < 1 ∧ F 6 2 k < 0) from fun q => (by first | decide | omega))]
    by_cases c : F 6 0 k < 0
    · rw [if_pos ⟨by decide, c⟩, if_pos ⟨by decide, c⟩]; omega
    · rw [if_neg (fun q => c q.2), if_neg (fun q => c q.2)]; omega
  · have e0 := f 0 (by first | decide | omega) (by first | decide | omega)
    have e1 := f 1 (by first | decide | omega) (by first | decide | omega)
    rw [z] at n ⊢
    rw [e0, e1, if_pos (show (2 : Int) < 2 + 1 ∧ F' 6 2 k < 0 from ⟨by decide, n⟩), if_neg (show ¬ ((2 : Int) < 2 ∧ F 6 2 k < 0) from fun q => (by first | decide | omega))]
    split <;> split <;> split <;> split <;> omega
def IKn (K : zK) (F : zF) : Prop := K.2 6 ≤ 3 ∧ K.2 2 + ngk 8 K F ≤ K.2 6 ∧ K.2 5 + ngk 9 K F ≤ K.2 6 ∧ K.2 9 + ngk 12 K F ≤ K.2 6
theorem IKn_f {K K' : zK} {F F' : zF} (h : IKn K F) (k2 : K'.2 2 = K.2 2) (k5 : K'.2 5 = K.2 5) (k6 : K'.2 6 = K.2 6) (k9 : K'.2 9 = K.2 9) (f : ∀ y k, 0 ≤ y → y < K.2 6 → k = 8 ∨ k = 9 ∨ k = 12 → F' 6 y k = F 6 y k) : IKn K' F' := by
  unfold IKn at *
  rw [ngk_e k6 (fun y y0 y1 => f y 8 y0 y1 (by first | decide | omega)), ngk_e k6 (fun y y0 y1 => f y 9 y0 y1 (by first | decide | omega)), ngk_e k6 (fun y y0 y1 => f y 12 y0 y1 (by first | decide | omega)), k2, k5, k6, k9]
  exact h
def IU (cc : Int) (K : zK) (F : zF) (B : zB) (Fm : zF) (Bm : zB) : Prop := (0 ≤ cc ∧ IKn K F) ∧ (∀ l, 0 ≤ l → l < K.2 2 → LXu l F B) ∧ (∀ s, 0 ≤ s → s < K.2 5 → PXu cc s F) ∧ (∀ t, 0 ≤ t → t < K.2 9 → STu t F B) ∧ (∀ y, 0 ≤ y → y < K.2 6 → F 6 y 13 = 0 ∨ (F 6 y 13 = 1 ∧ 0 ≤ F 6 y 12)) ∧ (∀ i, 0 ≤ i → i < 3 → ¬ Fm 13 i 53 = 0 → PMu cc i Fm) ∧ TQm Bm
theorem PXu_e {cc s : Int} {F F' : zF} (h : PXu cc s F) (f : ∀ k, k = 2 ∨ k = 3 ∨ k = 11 ∨ k = 12 ∨ k = 13 → F' 5 s k = F 5 s k) : PXu cc s F' := by
  unfold PXu at *
  rw [f 2 (by first | decide | omega), f 3 (by first | decide | omega), f 11 (by first | decide | omega), f 12 (by first | decide | omega), f 13 (by first | decide | omega)]
  exact h
theorem PXu_z {cc s : Int} {F F' : zF} (hc : 0 ≤ cc) (h : PXu cc s F) (f : ∀ k, k = 2 ∨ k = 3 ∨ k = 11 ∨ k = 12 ∨ k = 13 → F' 5 s k = 0 ∨ F' 5 s k = F 5 s k) : PXu cc s F' := by
  unfold PXu at *
  have f2 := f 2 (by first | decide | omega)
  have f3 := f 3 (by first | decide | omega)
  have f11 := f 11 (by first | decide | omega)
  have f12 := f 12 (by first | decide | omega)
  have f13 := f 13 (by first | decide | omega)
  omega
theorem PMu_e {cc i : Int} {F F' : zF} (h : PMu cc i F) (f : ∀ k, 65 ≤ k → k ≤ 69 → F' 13 i k = F 13 i k) : PMu cc i F' := by
  unfold PMu at *
  rw [f 65 (by first | decide | omega) (by first | decide | omega), f 66 (by first | decide | omega) (by first | decide | omega), f 67 (by first | decide | omega) (by first | decide | omega), f 68 (by first | decide | omega) (by first | decide | omega), f 69 (by first | decide | omega) (by first | decide | omega)]
  exact h
theorem PMu_0 {cc i : Int} {F : zF} (hc : 0 ≤ cc) (f : ∀ k, 65 ≤ k → k ≤ 69 → F 13 i k = 0) : PMu cc i F := by
  unfold PMu
  rw [f 65 (by first | decide | omega) (by first | decide | omega), f 66 (by first | decide | omega) (by first | decide | omega), f 67 (by first | decide | omega) (by first | decide | omega), f 68 (by first | decide | omega) (by first | decide | omega), f 69 (by first | decide | omega) (by first | decide | omega)]
  omega
theorem IU_f {cc : Int} {K K' : zK} {F F' : zF} {B B' : zB} {Fm Fm' : zF} {Bm Bm' : zB} (h : IU cc K F B Fm Bm) (kn : IKn K' F') (k2 : K'.2 2 = K.2 2) (k9 : K'.2 9 = K.2 9) (f2 : ∀ l, 0 ≤ l → l < K.2 2 → (F' 2 l 0 = F 2 l 0 ∨ F' 2 l 0 = 0) ∧ F' 2 l 4 = F 2 l 4 ∧ ∀ k x, B' 2 l k x = B 2 l k x) (f5 : ∀ s, 0 ≤ s → s < K'.2 5 → PXu cc s F') (f9 : ∀ t, 0 ≤ t → t < K.2 9 → (∀ k, F' 9 t k = F 9 t k) ∧ ∀ k x, B' 9 t k x = B 9 t k x) (f6 : ∀ y, 0 ≤ y → y < K'.2 6 → F' 6 y 13 = 0 ∨ (y < K.2 6 ∧ F' 6 y 13 = F 6 y 13 ∧ F' 6 y 12 = F 6 y 12)) (m : ∀ i, 0 ≤ i → i < 3 → ¬ Fm' 13 i 53 = 0 → PMu cc i Fm') (q : ∀ k x, k = 96 ∨ k = 97 ∨ k = 106 → Bm' 14 0 k x = Bm 14 0 k x) : IU cc K' F' B' Fm' Bm' := by
  obtain ⟨h0, h1, h2, h3, h4, h5, h6⟩ := h
  refine ⟨⟨h0.1, kn⟩, fun l l0 l1 => ?_, f5, fun t t0 t1 => ?_, fun y y0 y1 => ?_, m, TQm_e h6 q⟩
  · obtain ⟨g0, g4, gb⟩ := f2 l l0 (by first | decide | omega)
    obtain ⟨a1, a2, a3⟩ := h1 l l0 (by first | decide | omega)
    refine ⟨(by first | decide | omega), (by first | decide | omega), fun j => ?_⟩
    rw [gb, gb, gb, gb, gb, gb, gb, gb, gb]
    exact a3 j
  · obtain ⟨g, gb⟩ := f9 t t0 (by first | decide | omega)
    obtain ⟨a1, a2, a3, a4, a5⟩ := h3 t t0 (by first | decide | omega)
    unfold STu
    simp only [g, gb]
    exact ⟨a1, a2, a3, a4, a5⟩
  · rcases f6 y y0 y1 with z | ⟨z1, z2, z3⟩
    · exact Or.inl z
    · rw [z2, z3]; exact h4 y y0 z1
/-- lines of a kept piece, reference -/
def LNok (w : Int) (Fm : zF) (Bm : zB) : Prop := (1 ≤ Fm 13 w 48 ∧ Fm 13 w 48 ≤ 100) ∧ r32 (Fm 13 w 47) ∧ (∀ j, 0 ≤ j → j < Fm 13 w 48 → 0 ≤ Bm 13 w 49 j ∧ 1 ≤ Bm 13 w 50 j ∧ Bm 13 w 49 j + Bm 13 w 50 j ≤ Fm 13 w 7 ∧ r32 (Bm 13 w 51 j)) ∧ Bm 13 w 49 0 = 0 ∧ (∀ j, 0 ≤ j → j + 1 < Fm 13 w 48 → Bm 13 w 49 (j + 1) = Bm 13 w 49 j + Bm 13 w 50 j) ∧ Bm 13 w 49 (Fm 13 w 48 - 1) + Bm 13 w 50 (Fm 13 w 48 - 1) = Fm 13 w 7
def LNk (p w : Int) (Fm : zF) (Bm : zB) : Prop := 0 ≤ p → Fm 13 w 48 = 0 ∨ LNok w Fm Bm
theorem LNk_e {p w : Int} {Fm Fm' : zF} {Bm Bm' : zB} (h : LNk p w Fm Bm) (f : ∀ k, k = 7 ∨ k = 47 ∨ k = 48 → Fm' 13 w k = Fm 13 w k) (b : ∀ k x, k = 49 ∨ k = 50 ∨ k = 51 → Bm' 13 w k x = Bm 13 w k x) : LNk p w Fm' Bm' := fun p0 => by
  have e49 : ∀ x, Bm' 13 w 49 x = Bm 13 w 49 x := fun x => b 49 x (by first | decide | omega)
  have e50 : ∀ x, Bm' 13 w 50 x = Bm 13 w 50 x := fun x => b 50 x (by first | decide | omega)
  have e51 : ∀ x, Bm' 13 w 51 x = Bm 13 w 51 x := fun x => b 51 x (by first | decide | omega)
  unfold LNok
  rw [f 7 (by first | decide | omega), f 47 (by first | decide | omega), f 48 (by first | decide | omega)]
  simp only [e49, e50, e51]
  exact h p0
def IE (cc : Int) (K : zK) (Km : Nat) (p p0 p1 w w0 w1 : Int) (F : zF) (B : zB) (Fm : zF) (Bm : zB) : Prop := IC K Km p p0 p1 w w0 w1 F B Fm Bm ∧ T61 Bm ∧ IS K F ∧ SDk K p0 w0 F B Fm Bm ∧ SDk K p1 w1 F B Fm Bm ∧ IU cc K F B Fm Bm ∧ LNk p0 w0 Fm Bm ∧ LNk p1 w1 Fm Bm
/-- what touches no piece -/
def noF (F F' : zF) : Prop := ∀ c y k, ¬ c = 0 → ¬ c = 7 → ¬ c = 8 → ¬ (c = 1 ∧ y = 0) → ¬ (c = 12 ∧ y = 0 ∧ 8 ≤ k) → F' c y k = F c y k
def noB (B B' : zB) : Prop := ∀ c y k x, ¬ c = 0 → ¬ c = 7 → ¬ c = 8 → ¬ (c = 1 ∧ y = 0) → ¬ (c = 12 ∧ y = 0 ∧ k = 1) → B' c y k x = B c y k x
def noG (w : Int) (F F' : zF) : Prop := ∀ i k, (i ≠ w ∨ k = 0 ∨ 8 ≤ k → F' 13 i k = F 13 i k) ∧ F' 14 0 6 = F 14 0 6
def noH (w : Int) (B B' : zB) : Prop := (∀ i k x, ¬ (i = w ∧ 8 ≤ k ∧ k ≤ 35) → B' 13 i k x = B 13 i k x) ∧ ∀ k x, k = 5 ∨ k = 13 ∨ k = 14 ∨ k = 15 ∨ k = 58 ∨ k = 61 ∨ k = 96 ∨ k = 97 ∨ k = 106 → B' 14 0 k x = B 14 0 k x
theorem IE_f {cc : Int} {K K' : zK} {Km : Nat} {p p0 p1 w w0 w1 : Int} {F F' : zF} {B B' : zB} {Fm Fm' : zF} {Bm Bm' : zB} (h : IE cc K Km p p0 p1 w w0 w1 F B Fm Bm) (k1 : K'.1 = K.1) (kc : ∀ c, ¬ c = 8 → K'.2 c = K.2 c) (k8 : K.2 8 ≤ K'.2 8) (f : noF F F') (b : noB B B') (g : noG w Fm Fm') (m : noH w Bm Bm') (hT' : IT F' B' Fm' Bm') : IE cc K' Km p p0 p1 w w0 w1 F' B' Fm' Bm' := by
  obtain ⟨⟨⟨a1, a2, a3⟩, hB, ⟨d1, d2, d3, d4, d5, d6, d7⟩, hT, ⟨n1, n2, n3, n4, n5, n6⟩, hW, hQ, hG, hF, s0, s1⟩, t61, hS, e0, e1, hU, l0, l1⟩ := h
  have f12 : ∀ k, k < 8 → F' 12 0 k = F 12 0 k := fun k hk => f 12 0 k (by first | decide | omega) (by first | decide | omega) (by first | decide | omega) (by first | decide | omega) (by first | decide | omega)
  have f3 : ∀ k, F' 3 0 k = F 3 0 k := fun k => f 3 0 k (by first | decide | omega) (by first | decide | omega) (by first | decide | omega) (by first | decide | omega) (by first | decide | omega)
  have f4 : ∀ q k, F' 4 q k = F 4 q k := fun q k => f 4 q k (by first | decide | omega) (by first | decide | omega) (by first | decide | omega) (by first | decide | omega) (by first | decide | omega)
  have f5 : ∀ q k, F' 5 q k = F 5 q k := fun q k => f 5 q k (by first | decide | omega) (by first | decide | omega) (by first | decide | omega) (by first | decide | omega) (by first | decide | omega)
  have f6 : ∀ q k, F' 6 q k = F 6 q k := fun q k => f 6 q k (by first | decide | omega) (by first | decide | omega) (by first | decide | omega) (by first | decide | omega) (by first | decide | omega)
  have b4 : ∀ q k x, B' 4 q k x = B 4 q k x := fun q k x => b 4 q k x (by first | decide | omega) (by first | decide | omega) (by first | decide | omega) (by first | decide | omega) (by first | decide | omega)
  have b5 : ∀ q k x, B' 5 q k x = B 5 q k x := fun q k x => b 5 q k x (by first | decide | omega) (by first | decide | omega) (by first | decide | omega) (by first | decide | omega) (by first | decide | omega)
  have b6 : ∀ q k x, B' 6 q k x = B 6 q k x := fun q k x => b 6 q k x (by first | decide | omega) (by first | decide | omega) (by first | decide | omega) (by first | decide | omega) (by first | decide | omega)
  have b10 : ∀ x, B' 10 0 5 x = B 10 0 5 x := fun x => b 10 0 5 x (by first | decide | omega) (by first | decide | omega) (by first | decide | omega) (by first | decide | omega) (by first | decide | omega)
  have b3 : ∀ x, B' 12 0 3 x = B 12 0 3 x := fun x => b 12 0 3 x (by first | decide | omega) (by first | decide | omega) (by first | decide | omega) (by first | decide | omega) (by first | decide | omega)
  have kk : ∀ c, K.2 c ≤ K'.2 c := fun c => by
    by_cases z : c = 8
    · rw [z]; exact k8
    · rw [kc c z]; exact Int.le_refl _
  have q1 := kc 1 (by decide)
  have q4 := kc 4 (by decide)
  have q6 := kc 6 (by decide)
  have m14 : ∀ k, k = 5 ∨ k = 13 ∨ k = 14 ∨ k = 15 ∨ k = 58 ∨ k = 61 → Bm' 14 0 k = Bm 14 0 k := fun k hk => by funext x; exact m.2 k x (by first | decide | omega)
  have gs : GS K' B' := by
    have := GS_B d1 (B' := B') (fun p v _ _ => b6 p 0 v) (fun q x _ _ => b4 q 5 x)
    obtain ⟨g1, g2, g3, g4, g5⟩ := this
    refine ⟨fun c hc => ?_, by rw [q6, q4]; exact g2, by rw [q6]; exact g3, by rw [q4, q1]; exact g4, by rw [q4]; exact g5⟩
    have := g1 c hc
    rw [q1, kc c (by first | decide | omega)]
    exact this
  have hsl : ∀ y v, ¬ v = w → SL K y v F B Fm Bm → SL K' y v F' B' Fm' Bm' := fun y v hv s => SL_e s kk (fun _ _ k _ => f6 y k) (fun _ _ v => b6 y 0 v) (fun q k _ _ _ _ _ => ⟨f4 q k, fun x => b4 q k x⟩) (fun q i k a1 a2 _ _ _ i0 i1 => by
    have := d1.2.2.2.1 q i a1 a2 i0 i1
    exact ⟨f 1 _ k (by first | decide | omega) (by first | decide | omega) (by first | decide | omega) (by first | decide | omega) (by first | decide | omega), fun x => b 1 _ k x (by first | decide | omega) (by first | decide | omega) (by first | decide | omega) (by first | decide | omega) (by first | decide | omega)⟩) (fun k => (g v k).1 (Or.inl hv)) (fun k x => m.1 v k x (by first | decide | omega))
  have hsd : ∀ y v, ¬ v = w → SDk K y v F B Fm Bm → SDk K' y v F' B' Fm' Bm' := fun y v hv s y0 => by
    rw [f6]
    exact PD_e (s y0) (kk 5) (fun k _ _ => f6 y k) (fun _ => by funext k; exact f5 _ k) (fun _ => by funext k x; exact b5 _ k x) (fun k => (g v k).1 (Or.inl hv)) (fun k x => m.1 v k x (by first | decide | omega))
  have ex : ∀ k, 36 ≤ k → ∀ i x, Bm' 13 i k x = Bm 13 i k x := fun k hk i x => m.1 i k x (by first | decide | omega)
  refine ⟨⟨⟨by rw [k1]; exact a1, a2, ?_⟩, ?_, ⟨gs, fun j => by rw [b10]; exact d2 j, fun q s h1 h2 h3 h4 => by rw [b4]; exact d3 q s h1 (by first | decide | omega) h3 h4, ?_, ?_, ?_, ?_⟩, hT', ⟨by rw [f12 7 (by first | decide | omega)]; exact n1, by rw [b3]; exact n2, by rw [b3]; exact n3, by rw [(g 0 0).2]; exact n4, by rw [m.2 5 0 (by first | decide | omega)]; exact n5, by rw [m.2 5 1 (by first | decide | omega)]; exact n6⟩, hW, ?_, ?_, ?_, hsl p0 w0 hW.2.2.2.1 s0, hsl p1 w1 hW.2.2.2.2.1 s1⟩, ?_, ?_, hsd p0 w0 hW.2.2.2.1 e0, hsd p1 w1 hW.2.2.2.2.1 e1, ?_, LNk_e l0 (fun k hk => (g w0 k).1 (Or.inl hW.2.2.2.1)) (fun k x hk => m.1 w0 k x (by first | decide | omega)), LNk_e l1 (fun k hk => (g w1 k).1 (Or.inl hW.2.2.2.2.1)) (fun k x hk => m.1 w1 k x (by first | decide | omega))⟩
  · rw [kc 0 (by decide), kc 2 (by decide), kc 3 (by decide), kc 5 (by decide), kc 7 (by decide), kc 9 (by decide), kc 10 (by decide), kc 11 (by decide), kc 12 (by decide)]
    omega
  · unfold IB at *
    rw [f12 0 (by first | decide | omega), f12 2 (by first | decide | omega), f12 4 (by first | decide | omega), f12 5 (by first | decide | omega), f12 6 (by first | decide | omega), f3]; exact hB
  · unfold MW at *
    rw [m14 13 (by first | decide | omega), m14 14 (by first | decide | omega), m14 15 (by first | decide | omega)]; exact d4
  · unfold XS at *
    simp only [m14 58 (by first | decide | omega), ex 36 (by decide), ex 37 (by decide), ex 38 (by decide), ex 39 (by decide), ex 40 (by decide), ex 41 (by decide)]; exact d5
  · unfold XC at *
    simp only [ex 42 (by decide), ex 45 (by decide), ex 46 (by decide)]; exact d6
  · unfold X77 at *
    simp only [ex 77 (by decide), ex 78 (by decide), ex 79 (by decide), ex 80 (by decide)]; exact d7
  · unfold IQp at *
    rw [q6]; exact hQ
  · unfold IG at *
    rw [q6, q4, q1, slE_e (fun _ v => b6 p 0 v), slE_e (fun _ v => b6 p0 0 v), slE_e (fun _ v => b6 p1 0 v)]; exact hG
  · intro y y0 y1
    rw [f6, f6, f6, kc 2 (by decide), kc 5 (by decide), kc 9 (by decide)]
    exact hF y y0 (by first | decide | omega)
  · unfold T61 at *
    rw [m14 61 (by first | decide | omega)]; exact t61
  · refine ⟨fun y y0 y1 z => ?_, fun k hk y y' y0 y1 z0 z1 n => ?_⟩
    · rw [f6] at z ⊢
      have := hS.1 y y0 (by first | decide | omega) z
      unfold rwS at *
      rw [f5, f5]; exact this
    · rw [f6, f6]
      exact hS.2 k hk y y' y0 (by first | decide | omega) z0 (by first | decide | omega) n
  · have u0 := hU
    obtain ⟨c0, _, hU5, _, _, hUm, _⟩ := u0
    refine IU_f hU (IKn_f c0.2 (kc 2 (by decide)) (kc 5 (by decide)) (kc 6 (by decide)) (kc 9 (by decide)) (fun y k _ _ _ => f6 y k)) (kc 2 (by decide)) (kc 9 (by decide)) (fun l _ _ => ⟨Or.inl (f 2 l 0 (by first | decide | omega) (by first | decide | omega) (by first | decide | omega) (by first | decide | omega) (by first | decide | omega)), f 2 l 4 (by first | decide | omega) (by first | decide | omega) (by first | decide | omega) (by first | decide | omega) (by first | decide | omega), fun k x => b 2 l k x (by first | decide | omega) (by first | decide | omega) (by first | decide | omega) (by first | decide | omega) (by first | decide | omega)⟩) (fun s s0 s1 => PXu_e (hU5 s s0 (by rw [← kc 5 (by decide)]; exact s1)) (fun k _ => f5 s k)) (fun t _ _ => ⟨fun k => f 9 t k (by first | decide | omega) (by first | decide | omega) (by first | decide | omega) (by first | decide | omega) (by first | decide | omega), fun k x => b 9 t k x (by first | decide | omega) (by first | decide | omega) (by first | decide | omega) (by first | decide | omega) (by first | decide | omega)⟩) (fun y _ y1 => Or.inr ⟨by rw [← q6]; exact y1, f6 y 13, f6 y 12⟩) (fun i i0 i1 z => ?_) (fun k x hk => m.2 k x (by first | decide | omega))
    rw [(g i 53).1 (by first | decide | omega)] at z
    exact PMu_e (hUm i i0 i1 z) (fun k k0 k1 => (g i k).1 (by first | decide | omega))
end
