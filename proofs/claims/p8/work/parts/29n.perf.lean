section
/-! ===== strokes, both sides alike: the whole ===== -/
/-- stroke t of both sides is z -/
def SX (s w t z : Int) (B Bm : zB) : Prop := Bm 13 w 61 t = (if z % 2 = 0 then B 5 s 344 (z / 2) else B 5 s 345 (z / 2)) ∧ Bm 13 w 62 t = B 5 s 340 (z / 2) ∧ Bm 13 w 63 t = B 5 s 342 (z / 2) ∧ Bm 13 w 64 t = if z % 2 = 0 then B 5 s 343 (z / 2) else 0
/-- a piece performed, both sides -/
def PFD (s w c : Int) (F : zF) (B : zB) (Fm : zF) (Bm : zB) : Prop := (F 5 s 1 = 0 ∧ F 5 s 0 = c ∧ 0 ≤ c ∧ c ≤ 2000) ∧ (Fm 13 w 53 = 1 ∧ Fm 13 w 54 = c ∧ Fm 13 w 60 = 2 * c) ∧ SB s c B ∧ (∀ j, 0 ≤ j → j < c → Bm 13 w 55 j = B 5 s 344 j ∧ Bm 13 w 56 j = B 5 s 345 j ∧ Bm 13 w 57 j = B 5 s 342 j ∧ Bm 13 w 58 j = B 5 s 343 j ∧ Bm 13 w 59 j = B 5 s 340 j) ∧ (∀ t, 0 ≤ t → t + 1 < 2 * c → B 5 s (F 5 s 8).toNat t < B 5 s (F 5 s 8).toNat (t + 1)) ∧ (∀ t, 0 ≤ t → t < 2 * c → ∃ z, 0 ≤ z ∧ z < 2 * c ∧ B 5 s (F 5 s 8).toNat t = kz s B z ∧ SX s w t z B Bm) ∧ F 5 s 2 = Fm 13 w 65
theorem kz_M {V s c z : Int} {B Bm : zB} (h : ∀ j, 0 ≤ j → j < c → SR V s j B Bm) (z0 : 0 ≤ z) (z1 : z < 2 * c) : kz s B z = kM Bm z := by
  obtain ⟨a1, a2, a3, a4, a5, a6, a7⟩ := h (z / 2) (by first | decide | omega) (by first | decide | omega)
  unfold kz kM tz
  by_cases e : z % 2 = 0
  · rw [if_pos e, if_pos e, a1.1, a2.1, a3.1, a5.1, e]
    rfl
  · rw [if_neg e, if_neg e, a1.1, a2.1, a3.1, a6.1, show z % 2 = 1 by omega]
    rfl
theorem P_strk {K : zK} {Km : Nat} {V s w c : Int} {F : zF} {B : zB} {Fm : zF} {Bm : zB} (hK : 4100 ≤ K.1) (hKm : 4100 ≤ Km) (hs : 0 ≤ s ∧ s < K.2 5) (w0 : 0 ≤ w ∧ w < 3) (hr : rwS s F) (h0 : F 5 s 1 = 0 ∧ F 5 s 0 = c ∧ 0 ≤ c ∧ c ≤ 2000) (h62 : Fm 14 0 62 = c) (h53 : Fm 13 w 53 = 1 ∧ Fm 13 w 54 = c) (hS : ∀ j, 0 ≤ j → j < c → SR V s j B Bm) : ∃ F' B' Fm' Bm', f_Performance_begin K s F B = some (0, F', B') ∧ f_M_perform_41 Km Km 0 w Fm Bm = some (c, Fm', Bm') ∧ rwS s F' ∧ (∀ y i k, ¬ (y = 5 ∧ i = s ∧ (k = 2 ∨ k = 8 ∨ k = 9 ∨ k = 11 ∨ k = 12 ∨ k = 13)) → F' y i k = F y i k) ∧ (F' 5 s 2 = 0 ∧ F' 5 s 11 = 0 ∧ F' 5 s 12 = 0 ∧ F' 5 s 13 = 0) ∧ (∀ y i j t, ¬ (y = 5 ∧ i = s ∧ (j = 180 ∨ j = 181)) → B' y i j t = B y i j t) ∧ (∀ y i k, ¬ (y = 13 ∧ i = w ∧ (k = 60 ∨ (65 ≤ k ∧ k ≤ 69))) → Fm' y i k = Fm y i k) ∧ (Fm' 13 w 65 = 0 ∧ Fm' 13 w 66 = 0 ∧ Fm' 13 w 67 = 0 ∧ Fm' 13 w 68 = 0 ∧ Fm' 13 w 69 = 0) ∧ (∀ y i k x, ¬ (y = 13 ∧ i = w ∧ 55 ≤ k ∧ k ≤ 64) → ¬ (y = 14 ∧ i = 0 ∧ k = 69) → Bm' y i k x = Bm y i k x) ∧ PFD s w c F' B' Fm' Bm' := by
  have hB : SB s c B := fun j j0 j1 => by
    obtain ⟨a1, a2, a3, a4, a5, a6, a7⟩ := hS j j0 j1
    exact ⟨a1.2, a2.2, a3.2, a4.2, a5.2, a7.1, a6.2⟩
  obtain ⟨F', B', a', x1, x2, x3, x4, x5, x6, x7, x8⟩ := C_begin hK hs hr h0.2.1 h0.2.2 hB
  obtain ⟨B1, y1, y2, y3⟩ := L_41 (K := Km) (F := Fm) (B0 := Bm) w0 h62 h0.2.2 c.toNat Km (l := 0) (B := Bm) (by first | decide | omega) (by decide) (by first | decide | omega) (fun _ _ _ _ _ => rfl) (fun j j0 j1 => (by first | decide | omega))
  have m14 : ∀ k x, B1 14 0 k x = Bm 14 0 k x := fun k x => y2 14 0 k x (by first | decide | omega)
  have hM : SM c B1 := fun j j0 j1 => by
    obtain ⟨a1, a2, a3, a4, a5, a6, a7⟩ := hS j j0 j1
    rw [m14, m14, m14, m14, m14, m14, ← a1.1, ← a2.1, ← a3.1, ← a4.1, ← a5.1, ← a6.1]
    exact hB j j0 j1
  obtain ⟨B2, z1, z2, z3⟩ := L_127 (K := Km) (w := w) (F := zup3 Fm 13 w 60 (2 * c)) hKm w0 hM h0.2.2.1 h0.2.2.2 (by rw [zup3_v, if_pos (by first | decide | omega)]) (2 * c).toNat Km (l := 0) (B := B1) (by first | decide | omega) (by decide) (by first | decide | omega) (fun _ _ _ _ _ => rfl) ⟨fun j j0 j1 => (by first | decide | omega), fun j j0 j1 => (by first | decide | omega), fun y y0 y1 => (by first | decide | omega)⟩
  obtain ⟨B3, u1, u2, u3⟩ := L_198 (K := Km) (w := w) (F := zup3 Fm 13 w 60 (2 * c)) (B0 := B2) (Z := B2 14 0 69) w0 h0.2.2 (by rw [zup3_v, if_pos (by first | decide | omega)]) (fun t t0 t1 => ⟨rfl, z3.1 t t0 t1⟩) (2 * c).toNat Km (l := 0) (B := B2) (by first | decide | omega) (by decide) (by first | decide | omega) (fun _ _ _ _ _ => rfl) (fun t t0 t1 => (by first | decide | omega))
  have kB1 : ∀ y, kM B1 y = kM Bm y := fun y => by unfold kM tz; rw [m14, m14, m14, m14, m14]
  have f62 : (zup3 Fm 13 w 60 (2 * c)) 14 0 62 = c := by rw [zup3_v, if_neg (by first | decide | omega)]; exact h62
  rw [f62] at u1
  have ord := sig_id (f := fun t => B' 5 s a' t) (g := fun t => kM B1 (B2 14 0 69 t)) (N := 2 * c) x7 z3.2.1 (fun t t0 t1 => by
    obtain ⟨y, y0, y1', y2'⟩ := x8 t t0 t1
    obtain ⟨j, j0, j1, j2⟩ := z3.2.2 y y0 y1'
    refine ⟨j, j0, j1, ?_⟩
    show B' 5 s a' t = kM B1 (B2 14 0 69 j)
    rw [j2, kB1, y2', kz_M hS y0 y1'])
  have a8 : (F' 5 s 8).toNat = a' := by rw [x3]; exact Int.toNat_natCast a'
  have av : a' = 180 ∨ a' = 181 := by
    rcases x2 with q | q
    · have := q.1; omega
    · have := q.1; omega
  have r34 : ∀ k x, 340 ≤ k → B' 5 s k x = B 5 s k x := fun k x hk => x6 5 s k x (by first | decide | omega)
  have kB' : ∀ z, kz s B' z = kz s B z := fun z => by
    unfold kz
    rw [r34 344 _ (by decide), r34 345 _ (by decide), r34 340 _ (by decide), r34 341 _ (by decide), r34 342 _ (by decide)]
  have n14 : ∀ k x, ¬ k = 69 → B2 14 0 k x = Bm 14 0 k x := fun k x hk => by rw [z2 14 0 k x (by first | decide | omega), m14]
  refine ⟨F', B', _, B3, x1, by rw [y1, z1, u1], x2, x4, x5, x6, fun y i k q => ?_, ⟨?_, ?_, ?_, ?_, ?_⟩, fun y i k x q1 q2 => ?_, ⟨?_, ?_, ?_, ?_⟩, ⟨?_, ?_, ?_⟩, fun j j0 j1 => ?_, fun j j0 j1 => ?_, fun t t0 t1 => ?_, fun t t0 t1 => ?_, ?_⟩
  · rw [zup3_v, if_neg (by first | decide | omega), zup3_v, if_neg (by first | decide | omega), zup3_v, if_neg (by first | decide | omega), zup3_v, if_neg (by first | decide | omega), zup3_v, if_neg (by first | decide | omega), zup3_v, if_neg (by first | decide | omega)]
  · rw [zup3_v, if_neg (by first | decide | omega), zup3_v, if_neg (by first | decide | omega), zup3_v, if_neg (by first | decide | omega), zup3_v, if_neg (by first | decide | omega), zup3_v, if_pos (by first | decide | omega)]
  · rw [zup3_v, if_neg (by first | decide | omega), zup3_v, if_neg (by first | decide | omega), zup3_v, if_neg (by first | decide | omega), zup3_v, if_pos (by first | decide | omega)]
  · rw [zup3_v, if_neg (by first | decide | omega), zup3_v, if_neg (by first | decide | omega), zup3_v, if_pos (by first | decide | omega)]
  · rw [zup3_v, if_neg (by first | decide | omega), zup3_v, if_pos (by first | decide | omega)]
  · rw [zup3_v, if_pos (by first | decide | omega)]
  · rw [u2 y i k x (by first | decide | omega), z2 y i k x (by first | decide | omega), y2 y i k x (by first | decide | omega)]
  · rw [x4 5 s 1 (by first | decide | omega)]; exact h0.1
  · rw [x4 5 s 0 (by first | decide | omega)]; exact h0.2.1
  · exact h0.2.2.1
  · exact h0.2.2.2
  · rw [zup3_v, if_neg (by first | decide | omega), zup3_v, if_neg (by first | decide | omega), zup3_v, if_neg (by first | decide | omega), zup3_v, if_neg (by first | decide | omega), zup3_v, if_neg (by first | decide | omega), zup3_v, if_neg (by first | decide | omega)]; exact h53.1
  · rw [zup3_v, if_neg (by first | decide | omega), zup3_v, if_neg (by first | decide | omega), zup3_v, if_neg (by first | decide | omega), zup3_v, if_neg (by first | decide | omega), zup3_v, if_neg (by first | decide | omega), zup3_v, if_neg (by first | decide | omega)]; exact h53.2
  · rw [zup3_v, if_neg (by first | decide | omega), zup3_v, if_neg (by first | decide | omega), zup3_v, if_neg (by first | decide | omega), zup3_v, if_neg (by first | decide | omega), zup3_v, if_neg (by first | decide | omega), zup3_v, if_pos (by first | decide | omega)]
  · rw [r34 340 _ (by decide), r34 341 _ (by decide), r34 342 _ (by decide), r34 343 _ (by decide), r34 344 _ (by decide), r34 345 _ (by decide)]
    exact hB j j0 j1
  · obtain ⟨a1, a2, a3, a4, a5, a6, a7⟩ := hS j j0 j1
    obtain ⟨e1, e2, e3, e4, e5⟩ := y3 j j0 j1
    have n5 : ∀ k, 55 ≤ k → k ≤ 59 → B3 13 w k j = B1 13 w k j := fun k q1 q2 => by rw [u2 13 w k j (by first | decide | omega), z2 13 w k j (by first | decide | omega)]
    rw [n5 55 (by decide) (by decide), n5 56 (by decide) (by decide), n5 57 (by decide) (by decide), n5 58 (by decide) (by decide), n5 59 (by decide) (by decide), e1, e2, e3, e4, e5, r34 344 _ (by decide), r34 345 _ (by decide), r34 342 _ (by decide), r34 343 _ (by decide), r34 340 _ (by decide)]
    exact ⟨a5.1.symm, a6.1.symm, a3.1.symm, a4.1.symm, a1.1.symm⟩
  · rw [a8]; exact x7 t t0 t1
  · obtain ⟨q1, q2⟩ := z3.1 t t0 t1
    refine ⟨B2 14 0 69 t, q1, q2, ?_, ?_⟩
    · rw [a8, kB', kz_M hS q1 q2, ← kB1]
      exact ord t t0 t1
    · obtain ⟨s1, s2, s3, s4⟩ := u3 t t0 t1
      obtain ⟨a1, a2, a3, a4, a5, a6, a7⟩ := hS (B2 14 0 69 t / 2) (by first | decide | omega) (by first | decide | omega)
      unfold SX
      rw [s1, s2, s3, s4, r34 344 _ (by decide), r34 345 _ (by decide), r34 340 _ (by decide), r34 342 _ (by decide), r34 343 _ (by decide), a5.1, a6.1, a1.1, a3.1, a4.1]
      unfold tz
      rw [n14 63 _ (by decide), n14 64 _ (by decide), n14 67 _ (by decide), n14 65 _ (by decide), n14 66 _ (by decide)]
      exact ⟨rfl, rfl, rfl, rfl⟩
  · rw [x5.1, zup3_v, if_neg (by first | decide | omega), zup3_v, if_neg (by first | decide | omega), zup3_v, if_neg (by first | decide | omega), zup3_v, if_neg (by first | decide | omega), zup3_v, if_pos (by first | decide | omega)]
end
