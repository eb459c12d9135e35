section
/-! ===== strokes made and put in order: the class ===== -/
/-- the key of stroke z: sound z / 2 begins (z even) or ends -/
def kz (s : Int) (B : zB) (z : Int) : Int := if z % 2 = 0 then skV (B 5 s 344 (z / 2)) 1 (B 5 s 340 (z / 2)) (B 5 s 342 (z / 2)) (B 5 s 341 (z / 2)) (z / 2) else skV (B 5 s 345 (z / 2)) 0 (B 5 s 340 (z / 2)) (B 5 s 342 (z / 2)) (B 5 s 341 (z / 2)) (z / 2)
/-- sounds that can be struck -/
def SB (s c : Int) (B : zB) : Prop := ∀ j, 0 ≤ j → j < c → (0 ≤ B 5 s 340 j ∧ B 5 s 340 j < 4) ∧ (0 ≤ B 5 s 341 j ∧ B 5 s 341 j < 200) ∧ (0 ≤ B 5 s 342 j ∧ B 5 s 342 j ≤ 127) ∧ (0 ≤ B 5 s 343 j ∧ B 5 s 343 j ≤ 127) ∧ 0 ≤ B 5 s 344 j ∧ B 5 s 344 j < B 5 s 345 j ∧ B 5 s 345 j ≤ 500000
theorem skV_r {t on v to ev j : Int} (h1 : 0 ≤ t ∧ t ≤ 500000) (h2 : on = 0 ∨ on = 1) (h3 : 0 ≤ v ∧ v < 4) (h4 : 0 ≤ to ∧ to ≤ 127) (h5 : 0 ≤ ev ∧ ev < 200) (h6 : 0 ≤ j ∧ j < 2000) : 0 ≤ skV t on v to ev j ∧ r64 (skV t on v to ev j) ∧ skV t on v to ev j % 2048 = j ∧ skV t on v to ev j / 268435456 = t * 2 + on := by
  unfold skV r64
  omega
theorem kz_r {s c z : Int} {B : zB} (h : SB s c B) (c1 : c ≤ 2000) (z0 : 0 ≤ z) (z1 : z < 2 * c) : r64 (kz s B z) ∧ kz s B z % 2048 = z / 2 ∧ (kz s B z / 268435456) % 2 = 1 - z % 2 := by
  obtain ⟨a1, a2, a3, a4, a5, a6, a7⟩ := h (z / 2) (by first | decide | omega) (by first | decide | omega)
  unfold kz
  by_cases e : z % 2 = 0
  · rw [if_pos e]
    obtain ⟨_, k1, k2, k3⟩ := skV_r (t := B 5 s 344 (z / 2)) (on := 1) (j := z / 2) ⟨a5, (by first | decide | omega)⟩ (Or.inr rfl) a1 a3 a2 (by first | decide | omega)
    exact ⟨k1, k2, (by first | decide | omega)⟩
  · rw [if_neg e]
    obtain ⟨_, k1, k2, k3⟩ := skV_r (t := B 5 s 345 (z / 2)) (on := 0) (j := z / 2) ⟨(by first | decide | omega), (by first | decide | omega)⟩ (Or.inl rfl) a1 a3 a2 (by first | decide | omega)
    exact ⟨k1, k2, (by first | decide | omega)⟩
theorem kz_i {s c z z' : Int} {B : zB} (h : SB s c B) (c1 : c ≤ 2000) (z0 : 0 ≤ z) (z1 : z < 2 * c) (y0 : 0 ≤ z') (y1 : z' < 2 * c) (e : kz s B z = kz s B z') : z = z' := by
  obtain ⟨_, a1, a2⟩ := kz_r h c1 z0 z1
  obtain ⟨_, b1, b2⟩ := kz_r h c1 y0 y1
  rw [e] at a1 a2
  omega
theorem C_beg {K : zK} {s c : Int} {a : Nat} {F : zF} {B0 : zB} (hs : 0 ≤ s ∧ s < K.2 5) (ha : F 5 s 8 = a) (hav : a = 180 ∨ a = 181) (hc : F 5 s 0 = c) (c0 : 0 ≤ c ∧ c ≤ 2000) (hB : SB s c B0) : ∀ (r n : Nat) {l : Int} {B : zB}, l + r = c → 0 ≤ l → r < n → (∀ y i j t, ¬ (y = 5 ∧ i = s ∧ j = a) → B y i j t = B0 y i j t) → (∀ z, 0 ≤ z → z < 2 * l → B 5 s a z = kz s B0 z) → ∃ B', f_Performance_begin_22 K n l s F B = zbind (f_Performance_sortStrokes K s F B') (fun r10 F10 B10 => some (0, F10, B10)) ∧ (∀ y i j t, ¬ (y = 5 ∧ i = s ∧ j = a) → B' y i j t = B0 y i j t) ∧ (∀ z, 0 ≤ z → z < 2 * c → B' 5 s a z = kz s B0 z) := by
  obtain ⟨la, za, ka⟩ := rw_l (s := s) hav
  have ta : (F 5 s 8).toNat = a := by rw [ha]; exact Int.toNat_natCast a
  intro r
  induction r with
  | zero =>
    intro n l B lr l0 hn hB0 hZ
    obtain ⟨n, rfl⟩ : ∃ j, n = j + 1 := ⟨n - 1, (by first | decide | omega)⟩
    refine ⟨B, ?_, hB0, fun z z0 z1 => hZ z z0 (by first | decide | omega)⟩
    rw [f_Performance_begin_22, if_pos hs, if_pos (by unfold r32; omega), hc, if_pos (by unfold r32; omega), if_pos (by first | decide | omega)]
  | succ r ih =>
    intro n l B lr l0 hn hB0 hZ
    obtain ⟨n, rfl⟩ : ∃ j, n = j + 1 := ⟨n - 1, (by first | decide | omega)⟩
    obtain ⟨a1, a2, a3, a4, a5, a6, a7⟩ := hB l l0 (by first | decide | omega)
    have e : ∀ k, 340 ≤ k → B 5 s k l = B0 5 s k l := fun k hk => hB0 5 s k l (by first | decide | omega)
    have k0 : kz s B0 (2 * l) = skV (B0 5 s 344 l) 1 (B0 5 s 340 l) (B0 5 s 342 l) (B0 5 s 341 l) l := by
      unfold kz
      rw [if_pos (by first | decide | omega), show 2 * l / 2 = l by omega]
    have k1 : kz s B0 (2 * l + 1) = skV (B0 5 s 345 l) 0 (B0 5 s 340 l) (B0 5 s 342 l) (B0 5 s 341 l) l := by
      unfold kz
      rw [if_neg (by first | decide | omega), show (2 * l + 1) / 2 = l by omega]
    have u : ∀ {C : zB} {t v : Int} {k : Nat} {x : Int}, ¬ k = a → (zup4 C 5 s a t v) 5 s k x = C 5 s k x := fun hk => by rw [zup4_v, if_neg (by first | decide | omega)]
    have n4 : ∀ k : Nat, 340 ≤ k → ¬ k = a := fun k hk => by omega
    rw [f_Performance_begin_22, if_pos hs, if_pos (by unfold r32; omega), hc, if_pos (by unfold r32; omega), if_neg (by first | decide | omega), if_pos (by first | decide | omega), e 344 (by decide), if_pos (by unfold r32; omega), C_sk hs (by first | decide | omega) ⟨a5, (by first | decide | omega)⟩ (Or.inr rfl) (by rw [e 340 (by decide)]; exact a1) (by rw [e 341 (by decide)]; exact a2) (by rw [e 342 (by decide)]; exact a3), zb_s, ta, la, if_pos (by first | decide | omega), if_pos za, if_pos ka, u (n4 345 (by decide)), e 345 (by decide), if_pos (by unfold r32; omega), C_sk hs (by first | decide | omega) ⟨(by first | decide | omega), (by first | decide | omega)⟩ (Or.inl rfl) (by rw [u (n4 340 (by decide)), e 340 (by decide)]; exact a1) (by rw [u (n4 341 (by decide)), e 341 (by decide)]; exact a2) (by rw [u (n4 342 (by decide)), e 342 (by decide)]; exact a3), zb_s, if_pos (by first | decide | omega), if_pos za, if_pos ka, u (n4 340 (by decide)), u (n4 341 (by decide)), u (n4 342 (by decide)), e 340 (by decide), e 341 (by decide), e 342 (by decide), ← k0, ← k1]
    refine ih n (l := l + 1) (by first | decide | omega) (by first | decide | omega) (by first | decide | omega) (fun y i j t q => by rw [zup4_v, if_neg (by first | decide | omega), zup4_v, if_neg (by first | decide | omega)]; exact hB0 y i j t q) (fun z z0 z1 => ?_)
    by_cases q1 : z = 2 * l + 1
    · rw [q1, zup4_v, if_pos (by first | decide | omega)]
    · by_cases q2 : z = 2 * l
      · rw [q2, zup4_v, if_neg (by first | decide | omega), zup4_v, if_pos (by first | decide | omega)]
      · rw [zup4_v, if_neg (by first | decide | omega), zup4_v, if_neg (by first | decide | omega)]
        exact hZ z z0 (by first | decide | omega)
/-- what begin leaves: the strokes' keys in rising order -/
theorem C_begin {K : zK} {s c : Int} {F : zF} {B : zB} (hK : 4100 ≤ K.1) (hs : 0 ≤ s ∧ s < K.2 5) (hr : rwS s F) (hc : F 5 s 0 = c) (c0 : 0 ≤ c ∧ c ≤ 2000) (hB : SB s c B) : ∃ F' B' a', f_Performance_begin K s F B = some (0, F', B') ∧ rwS s F' ∧ F' 5 s 8 = (a' : Nat) ∧ (∀ y i k, ¬ (y = 5 ∧ i = s ∧ (k = 2 ∨ k = 8 ∨ k = 9 ∨ k = 11 ∨ k = 12 ∨ k = 13)) → F' y i k = F y i k) ∧ (F' 5 s 2 = 0 ∧ F' 5 s 11 = 0 ∧ F' 5 s 12 = 0 ∧ F' 5 s 13 = 0) ∧ (∀ y i j t, ¬ (y = 5 ∧ i = s ∧ (j = 180 ∨ j = 181)) → B' y i j t = B y i j t) ∧ (∀ t, 0 ≤ t → t + 1 < 2 * c → B' 5 s a' t < B' 5 s a' (t + 1)) ∧ (∀ t, 0 ≤ t → t < 2 * c → ∃ z, 0 ≤ z ∧ z < 2 * c ∧ B' 5 s a' t = kz s B z) := by
  generalize hF1 : zup3 (zup3 (zup3 (zup3 F 5 s 2 0) 5 s 11 0) 5 s 12 0) 5 s 13 0 = F1
  have fn : ∀ y i k, ¬ (y = 5 ∧ i = s ∧ (k = 2 ∨ k = 11 ∨ k = 12 ∨ k = 13)) → F1 y i k = F y i k := fun y i k q => by rw [← hF1, zup3_v, if_neg (by first | decide | omega), zup3_v, if_neg (by first | decide | omega), zup3_v, if_neg (by first | decide | omega), zup3_v, if_neg (by first | decide | omega)]
  obtain ⟨a, b, ha, hab⟩ : ∃ a b : Nat, (F1 5 s 8 = a ∧ F1 5 s 9 = b) ∧ ((a = 180 ∧ b = 181) ∨ (a = 181 ∧ b = 180)) := by
    rcases hr with ⟨r1, r2⟩ | ⟨r1, r2⟩
    · exact ⟨180, 181, ⟨by rw [fn 5 s 8 (by first | decide | omega), r1]; rfl, by rw [fn 5 s 9 (by first | decide | omega), r2]; rfl⟩, Or.inl ⟨rfl, rfl⟩⟩
    · exact ⟨181, 180, ⟨by rw [fn 5 s 8 (by first | decide | omega), r1]; rfl, by rw [fn 5 s 9 (by first | decide | omega), r2]; rfl⟩, Or.inr ⟨rfl, rfl⟩⟩
  have h0 : F1 5 s 0 = c := by rw [fn 5 s 0 (by first | decide | omega)]; exact hc
  obtain ⟨B1, x1, x2, x3⟩ := C_beg (K := K) (F := F1) (B0 := B) hs ha.1 (by first | decide | omega) h0 c0 hB c.toNat K.1 (l := 0) (B := B) (by first | decide | omega) (by decide) (by first | decide | omega) (fun _ _ _ _ _ => rfl) (fun z z0 z1 => (by first | decide | omega))
  have kx : ∀ z, 0 ≤ z → z < 2 * c → r64 (B1 5 s a z) := fun z z0 z1 => by rw [x3 z z0 z1]; exact (kz_r hB c0.2 z0 z1).1
  obtain ⟨F', B', a', y1, y2, y3, y4, y5, y6, y7⟩ := C_sort (K := K) (N := 2 * c) (S0 := kz s B) (B0 := B) (F0 := F1) hK hs (by first | decide | omega) (by first | decide | omega) 12 K.1 (d := 1) (F := F1) (B := B1) (a := a) (b := b) (by decide) (by decide) (by
      have : (1 : Int) * 2 ^ 12 = 4096 := by decide
      omega) (by first | decide | omega) ha hab (fun _ _ _ _ => rfl) (fun y i j t q => x2 y i j t (by first | decide | omega)) ⟨kx, fun t t' t0 t1 s0 s1 e => by rw [x3 t t0 t1, x3 t' s0 s1] at e; exact kz_i hB c0.2 t0 t1 s0 s1 e, fun k t k0 k1 k2 k3 => (by first | decide | omega)⟩ (fun t t0 t1 => ⟨t, t0, t1, x3 t t0 t1⟩)
  refine ⟨F', B', a', ?_, y2, y3, fun y i k q => by rw [y4 y i k (by first | decide | omega), fn y i k (by first | decide | omega)], ⟨?_, ?_, ?_, ?_⟩, y5, y6, y7⟩
  · unfold f_Performance_begin
    rw [if_pos hs, hF1, x1]
    unfold f_Performance_sortStrokes
    rw [if_pos hs, h0, y1, zb_s]
  · rw [y4 5 s 2 (by first | decide | omega), ← hF1, zup3_v, if_neg (by first | decide | omega), zup3_v, if_neg (by first | decide | omega), zup3_v, if_neg (by first | decide | omega), zup3_v, if_pos (by first | decide | omega)]
  · rw [y4 5 s 11 (by first | decide | omega), ← hF1, zup3_v, if_neg (by first | decide | omega), zup3_v, if_neg (by first | decide | omega), zup3_v, if_pos (by first | decide | omega)]
  · rw [y4 5 s 12 (by first | decide | omega), ← hF1, zup3_v, if_neg (by first | decide | omega), zup3_v, if_pos (by first | decide | omega)]
  · rw [y4 5 s 13 (by first | decide | omega), ← hF1, zup3_v, if_pos (by first | decide | omega)]
end
