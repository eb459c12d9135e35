section
section
/-! ===== wide numbers taken ===== -/
def bwn (k : Nat) : Int := 256 ^ k - 1
theorem bwn_s (k : Nat) : bwn (k + 1) = 256 * bwn k + 255 := by
  unfold bwn
  rw [Int.pow_succ]
  omega
theorem bwn_4 {k : Nat} (h : k ≤ 4) : 0 ≤ bwn k ∧ bwn k ≤ 4294967295 := by
  have : k = 0 ∨ k = 1 ∨ k = 2 ∨ k = 3 ∨ k = 4 := by omega
  rcases this with rfl | rfl | rfl | rfl | rfl <;> decide
/-- with or without a fault, at byte a -/
def RQo (o a : Int) (F : zF) (Fm : zF) : Prop := (RG o a F Fm ∧ 0 ≤ F 8 o 6) ∨ (RX o F Fm ∧ F 8 o 6 ≤ F 0 0 1)
theorem P_tk {K : zK} {Km : Nat} {o a : Int} {F : zF} {B : zB} {Fm : zF} {Bm : zB} (h0 : 2 ≤ K.2 0) (ho : 0 ≤ o ∧ o < K.2 8) (hO : RO o F B Fm Bm) (hQ : RQo o a F Fm) : zP (f_SoundFile_take K o F B) (f_M_next Km Fm Bm) (fun r F' B' r' Fm' Bm' => B' = B ∧ Bm' = Bm ∧ tkF o F F' ∧ tkG Fm Fm' ∧ (0 ≤ r ∧ r < 256) ∧ (0 ≤ r' ∧ r' < 256) ∧ RQo o (a + 1) F' Fm' ∧ (Fm' 14 0 17 = 0 → Fm 14 0 17 = 0 ∧ r' = r ∧ a + 1 ≤ F 8 o 6)) := by
  have hO' := hO
  obtain ⟨o4, ⟨n1, n2, n3⟩, o5, o6⟩ := hO'
  rcases hQ with ⟨g, g6⟩ | ⟨x, x6⟩
  · obtain ⟨r, F', B', r', Fm', Bm', e1, e2, y1, y2, y3, y4, y5, y6, y7⟩ := P_take1 (Km := Km) h0 ho hO g g6
    refine ⟨r, F', B', r', Fm', Bm', e1, e2, y1, y2, y3, y4, y5, y6, ?_, fun z => ?_⟩
    · rcases y7 with ⟨_, _, q, _⟩ | q
      · exact Or.inl ⟨q, by rw [y3 8 o 6 (by first | decide | omega)]; exact g6⟩
      · refine Or.inr ⟨q, ?_⟩
        rw [y3 8 o 6 (by first | decide | omega), y3 0 0 1 (by first | decide | omega)]
        have := g.2.2.2.2.2.1
        omega
    · rcases y7 with ⟨q1, q2, q, _⟩ | q
      · exact ⟨g.2.1, q1, q2⟩
      · have := q.2.1.1; omega
  · obtain ⟨r, F', B', r', Fm', Bm', e1, e2, y1, y2, y3, y4, y5, y6, y7⟩ := P_takeX (Km := Km) h0 ho hO x x6 a
    have xq : RX o F' Fm' := by
      rcases y7 with ⟨_, _, _, q⟩ | q
      · have := x.1; have := x.2.1; have := x.2.2.1; omega
      · exact q
    refine ⟨r, F', B', r', Fm', Bm', e1, e2, y1, y2, y3, y4, y5, y6, Or.inr ⟨xq, ?_⟩, fun z => ?_⟩
    · rw [y3 8 o 6 (by first | decide | omega), y3 0 0 1 (by first | decide | omega)]; exact x6
    · have := xq.2.1.1; omega
theorem P_wide {K : zK} {Km : Nat} {o l : Int} (h0 : 2 ≤ K.2 0) (ho : 0 ≤ o ∧ o < K.2 8) : ∀ (d k m1 m2 : Nat) (a v v' : Int) (F : zF) (B : zB) (Fm : zF) (Bm : zB), (k : Int) + d = l → k + d ≤ 4 → d < m1 → d < m2 → (0 ≤ v ∧ v ≤ bwn k) → (0 ≤ v' ∧ v' ≤ bwn k) → (Fm 14 0 17 = 0 → v' = v) → RO o F B Fm Bm → RQo o a F Fm → zP (f_SoundFile_takeWide_5 K m1 k v o l F B) (f_M_whole_5 Km m2 k v' l Fm Bm) (fun r F' B' r' Fm' Bm' => B' = B ∧ Bm' = Bm ∧ tkF o F F' ∧ tkG Fm Fm' ∧ (0 ≤ r ∧ r ≤ bwn (k + d)) ∧ (0 ≤ r' ∧ r' ≤ bwn (k + d)) ∧ RQo o (a + d) F' Fm' ∧ (Fm' 14 0 17 = 0 → Fm 14 0 17 = 0 ∧ r' = r)) := by
  intro d
  induction d with
  | zero =>
    intro k m1 m2 a v v' F B Fm Bm e k4 l1 l2 hv hv' hvv hO hQ
    obtain ⟨p, rfl⟩ : ∃ p, m1 = p + 1 := ⟨m1 - 1, (by first | decide | omega)⟩
    obtain ⟨q, rfl⟩ : ∃ q, m2 = q + 1 := ⟨m2 - 1, (by first | decide | omega)⟩
    have b := bwn_4 (k := k) (by first | decide | omega)
    rw [f_SoundFile_takeWide_5, f_M_whole_5, if_pos (by unfold r32; omega), if_pos (by unfold r32; omega), if_pos (by first | decide | omega), if_pos (by unfold r32; omega), if_pos (by unfold r32; omega), if_pos (by first | decide | omega)]
    refine P_some ⟨rfl, rfl, fun _ _ _ _ => rfl, fun _ _ _ _ => rfl, hv, hv', ?_, fun z => ⟨z, hvv z⟩⟩
    rw [show a + ((0 : Nat) : Int) = a by omega]
    exact hQ
  | succ d ih =>
    intro k m1 m2 a v v' F B Fm Bm e k4 l1 l2 hv hv' hvv hO hQ
    obtain ⟨p, rfl⟩ : ∃ p, m1 = p + 1 := ⟨m1 - 1, (by first | decide | omega)⟩
    obtain ⟨q, rfl⟩ : ∃ q, m2 = q + 1 := ⟨m2 - 1, (by first | decide | omega)⟩
    have b := bwn_4 (k := k) (by first | decide | omega)
    have bs := bwn_s k
    rw [f_SoundFile_takeWide_5, f_M_whole_5, if_pos (show r32 (k : Int) by unfold r32; omega), if_pos (show r32 l by unfold r32; omega), if_neg (show ¬ l ≤ (k : Int) by omega), if_pos ho, if_pos (show r32 (k : Int) by unfold r32; omega), if_pos (show r32 l by unfold r32; omega), if_neg (show ¬ l ≤ (k : Int) by omega)]
    refine P_bind (P_tk (Km := Km) h0 ho hO hQ) (fun r F1 B1 r' G1 D1 y => ?_)
    obtain ⟨rfl, rfl, y3, y4, y5, y6, y7, y8⟩ := y
    rw [if_pos (by unfold r32; omega), if_pos (by unfold r32; omega), zlor8 hv'.1 (by first | decide | omega) y6.1 y6.2, show (k : Int) + 1 = ((k + 1 : Nat) : Int) by omega]
    obtain ⟨s, F2, B2, s', G2, D2, e1, e2, w1, w2, w3, w4, w5, w6, w7, w8⟩ := ih (k + 1) p q (a + 1) (v * 256 + r) (v' * 256 + r') F1 B1 G1 D1 (by first | decide | omega) (by first | decide | omega) (by first | decide | omega) (by first | decide | omega) (by first | decide | omega) (by first | decide | omega) (fun z => by have := hvv (y8 z).1; have := (y8 z).2.1; omega) (RO_t hO y3 y4) y7
    rw [show k + 1 + d = k + (d + 1) by omega] at w5 w6
    refine ⟨s, F2, B2, s', G2, D2, e1, e2, w1, w2, tkF_t y3 w3, tkG_t y4 w4, w5, w6, ?_, fun z => ⟨(y8 (w8 z).1).1, (w8 z).2⟩⟩
    rw [show a + ((d + 1 : Nat) : Int) = a + 1 + (d : Int) by omega]
    exact w7
end
end
section
section
/-! ===== a byte below 128 taken ===== -/
theorem C_refX {K : zK} {o c z : Int} {F : zF} {B : zB} {Fm : zF} (ho : 0 ≤ o ∧ o < K.2 8) (h : RX o F Fm) : f_SoundFile_refuse K o c z F B = some (0, F, B) := by
  obtain ⟨x7, x17, x18, _⟩ := h
  unfold f_SoundFile_refuse f_SoundFile_refuse_17
  rw [if_pos ho, if_pos (by unfold r32; omega), if_neg (by first | decide | omega)]
theorem L_goodX {Km : Nat} {o : Int} {F : zF} {Fm : zF} {Bm : zB} (h : RX o F Fm) : f_M_good Km Fm Bm = some (0, Fm, Bm) := by
  obtain ⟨x7, x17, _⟩ := h
  unfold f_M_good f_M_good_12
  rw [if_pos (by unfold r32; omega), if_neg (by first | decide | omega), if_pos (by decide)]
/-- a fault told at the same place on both sides -/
theorem RX_n {o a c z : Int} {F : zF} {Fm : zF} (h : RG o a F Fm) (h6 : 0 ≤ F 8 o 6) (n3 : Fm 14 0 3 ≤ 3000) (hc : 1 ≤ c ∧ c ≤ 3) (hz : 0 ≤ z ∧ z ≤ 3000) : RX o (zup3 F 8 o 7 (c + 16 * z)) (zup3 (zup3 Fm 14 0 17 c) 14 0 18 z) := by
  obtain ⟨g7, g17, ⟨a1, a2, a3, a4⟩, ⟨l1, l2⟩, ⟨m1, m2, m3⟩⟩ := h
  unfold RX
  simp only [zup3_v]
  simp
  omega
theorem P_data {K : zK} {Km : Nat} {o a : Int} {F : zF} {B : zB} {Fm : zF} {Bm : zB} (h0 : 2 ≤ K.2 0) (ho : 0 ≤ o ∧ o < K.2 8) (a0 : 0 ≤ a) (hO : RO o F B Fm Bm) (hQ : RQo o a F Fm) : zP (f_SoundFile_takeData K o F B) (f_M_below Km Fm Bm) (fun r F' B' r' Fm' Bm' => B' = B ∧ Bm' = Bm ∧ tkF o F F' ∧ tkG Fm Fm' ∧ (0 ≤ r ∧ r < 256) ∧ (0 ≤ r' ∧ r' < 256) ∧ RQo o (a + 1) F' Fm' ∧ (Fm' 14 0 17 = 0 → Fm 14 0 17 = 0 ∧ r' = r ∧ r < 128)) := by
  unfold f_SoundFile_takeData f_M_below f_SoundFile_takeData_23 f_M_below_30
  rw [if_pos ho]
  refine P_bind (P_tk (Km := Km) h0 ho hO hQ) (fun r F1 B1 r' G1 D1 y => ?_)
  obtain ⟨rfl, rfl, y3, y4, y5, y6, y7, y8⟩ := y
  have hO1 := RO_t hO y3 y4
  have n3 := hO1.2.1
  rw [if_pos (show r32 r by unfold r32; omega)]
  rcases y7 with ⟨g, g6⟩ | ⟨x, x6⟩
  · obtain ⟨z1, z2, z3⟩ := y8 g.2.1
    rw [L_good g.2.1, zb_s, if_pos (show r32 1 by decide), if_neg (show ¬ (1 : Int) = 0 by decide), z2, if_pos (show r32 r by unfold r32; omega)]
    by_cases z : r < 128
    · rw [if_pos z, if_pos z]
      exact P_some ⟨rfl, rfl, y3, y4, y5, y5, Or.inl ⟨g, g6⟩, fun _ => ⟨z1, rfl, z⟩⟩
    · rw [if_neg z, if_neg z, C_ref ho g.1, L_fb g.2.1, zb_s, zb_s, g.2.2.1.1, g.2.2.1.2.1]
      have gx := RX_n (c := 1) (z := a + 1 - 1) g g6 (by first | decide | omega) (by first | decide | omega) (by have := g.2.2.1; omega)
      refine P_some ⟨rfl, rfl, tkF_t y3 (fun c y k n => by rw [zup3_v, if_neg (by first | decide | omega)]), tkG_t y4 (fun c y k n => by rw [zup3_v, if_neg (by first | decide | omega), zup3_v, if_neg (by first | decide | omega)]), y5, y5, Or.inr ⟨gx, ?_⟩, fun q => ?_⟩
      · rw [zup3_v, if_neg (by first | decide | omega), zup3_v, if_neg (by first | decide | omega)]
        have := g.2.2.2.2.2.1
        omega
      · have := gx.2.1.1; omega
  · rw [L_goodX x, zb_s, if_pos (show r32 0 by decide), if_pos rfl]
    have q : ∀ (q : G1 14 0 17 = 0), Fm 14 0 17 = 0 ∧ r' = r ∧ r < 128 := fun q => by have := x.2.1.1; omega
    by_cases z : r < 128
    · rw [if_pos z]
      exact P_some ⟨rfl, rfl, y3, y4, y5, y6, Or.inr ⟨x, x6⟩, q⟩
    · rw [if_neg z, C_refX ho x, zb_s]
      exact P_some ⟨rfl, rfl, y3, y4, y5, y6, Or.inr ⟨x, x6⟩, q⟩
end
end
section
section
/-! ===== a number of sevens taken ===== -/
theorem zor7s {w b : Int} (h0 : 0 ≤ w) (h1 : w < 16777216) (h2 : 0 ≤ b) (h3 : b < 128) : zor (zshl w 7) b = w * 128 + b := by
  obtain ⟨n, rfl⟩ := Int.eq_ofNat_of_zero_le h0
  obtain ⟨m, rfl⟩ := Int.eq_ofNat_of_zero_le h2
  have k1 : (BitVec.ofInt 32 (n : Int)).toNat = n := by
    rw [BitVec.toNat_ofInt]
    show ((n : Int) % 4294967296).toNat = n
    omega
  have k2 : (BitVec.ofInt 32 (m : Int)).toNat = m := by
    rw [BitVec.toNat_ofInt]
    show ((m : Int) % 4294967296).toNat = m
    omega
  have e0 : (BitVec.ofInt 32 (n : Int) <<< (7 : Nat)).toNat = n * 128 := by
    rw [BitVec.toNat_shiftLeft, k1, Nat.shiftLeft_eq]
    show n * 128 % 4294967296 = n * 128
    omega
  have e1 : zshl (n : Int) 7 = ((n * 128 : Nat) : Int) := by
    show (BitVec.ofInt 32 (n : Int) <<< (7 : Nat)).toInt = _
    rw [BitVec.toInt_eq_toNat_of_lt (by rw [e0]; omega), e0]
  have k3 : (BitVec.ofInt 32 ((n * 128 : Nat) : Int)).toNat = n * 128 := by
    rw [BitVec.toNat_ofInt]
    show (((n * 128 : Nat) : Int) % 4294967296).toNat = n * 128
    omega
  have e2 : (BitVec.ofInt 32 ((n * 128 : Nat) : Int) ||| BitVec.ofInt 32 (m : Int)).toNat = n * 128 + m := by
    rw [BitVec.toNat_or, k3, k2]
    have := Nat.shiftLeft_add_eq_or_of_lt (a := n) (b := m) (i := 7) (by first | decide | omega)
    rw [Nat.shiftLeft_eq] at this
    exact this.symm
  rw [e1]
  show (BitVec.ofInt 32 ((n * 128 : Nat) : Int) ||| BitVec.ofInt 32 (m : Int)).toInt = _
  rw [BitVec.toInt_eq_toNat_of_lt (by rw [e2]; omega), e2]
  omega
theorem rm128_f : ∀ x : Fin 256, zrm (x.val : Int) 128 = (x.val : Int) % 128 ∧ zand (x.val : Int) 127 = (x.val : Int) % 128 := by decide +kernel
theorem rm128 {x : Int} (h0 : 0 ≤ x) (h1 : x < 256) : zrm x 128 = x % 128 ∧ zand x 127 = x % 128 := by
  have := rm128_f ⟨x.toNat, (by first | decide | omega)⟩
  rwa [show (((⟨x.toNat, (by first | decide | omega)⟩ : Fin 256).val : Nat) : Int) = x by show ((x.toNat : Nat) : Int) = x; omega] at this
/-- behind a fault the class goes on, and nothing comes of it -/
theorem C_dlX {K : zK} {o : Int} {B : zB} {Fm : zF} {Bm : zB} (h0 : 2 ≤ K.2 0) (ho : 0 ≤ o ∧ o < K.2 8) : ∀ (d k m : Nat) (v : Int) (F : zF), k + d = 4 → d < m → (0 ≤ v ∧ v < 128 ^ k) → RO o F B Fm Bm → RX o F Fm → F 8 o 6 ≤ F 0 0 1 → ∃ r F', f_SoundFile_takeDelta_4 K m k v o F B = some (r, F', B) ∧ tkF o F F' ∧ (0 ≤ r ∧ r < 268435456) ∧ RX o F' Fm ∧ F' 8 o 6 ≤ F' 0 0 1 := by
  intro d
  induction d with
  | zero =>
    intro k m v F e hm hv hO hX h6
    obtain ⟨p, rfl⟩ : ∃ p, m = p + 1 := ⟨m - 1, (by first | decide | omega)⟩
    rw [f_SoundFile_takeDelta_4, if_pos (by unfold r32; omega), if_pos (by first | decide | omega), if_pos ho, C_refX ho hX, zb_s]
    exact ⟨0, F, rfl, fun _ _ _ _ => rfl, (by first | decide | omega), hX, h6⟩
  | succ d ih =>
    intro k m v F e hm hv hO hX h6
    obtain ⟨p, rfl⟩ : ∃ p, m = p + 1 := ⟨m - 1, (by first | decide | omega)⟩
    obtain ⟨r, F1, B1, r', G1, D1, e1, e2, rfl, rfl, y3, y4, y5, y6, y7, y8⟩ := P_tk (Km := 0) (a := 0) h0 ho hO (Or.inr ⟨hX, h6⟩)
    have eg : G1 = Fm := by
      unfold f_M_next at e2
      rw [L_goodX hX, zb_s, if_pos (by decide), if_pos rfl] at e2
      exact (congrArg (fun z => z.2.1) (Option.some.inj e2)).symm
    rw [eg] at y4 y7 y8
    have x1 : RX o F1 Fm ∧ F1 8 o 6 ≤ F1 0 0 1 := by
      rcases y7 with ⟨g, _⟩ | q
      · have := g.2.1; have := hX.2.1; omega
      · exact q
    have hp : (128 : Int) ^ (k + 1) = 128 ^ k * 128 := Int.pow_succ 128 k
    have b4 : (128 : Int) ^ (k + 1) ≤ 268435456 := by
      have : k = 0 ∨ k = 1 ∨ k = 2 ∨ k = 3 := by omega
      rcases this with rfl | rfl | rfl | rfl <;> decide
    have rm := (rm128 y5.1 y5.2).1
    rw [f_SoundFile_takeDelta_4, if_pos (by unfold r32; omega), if_neg (by first | decide | omega), if_pos ho, e1, zb_s, if_pos (by unfold r32; omega), rm]
    by_cases z : 128 ≤ r
    · rw [if_pos z, show (k : Int) + 1 = ((k + 1 : Nat) : Int) by omega]
      obtain ⟨s, F2, w1, w2, w3, w4, w5⟩ := ih (k + 1) p (v * 128 + r % 128) F1 (by first | decide | omega) (by first | decide | omega) (by first | decide | omega) (RO_t hO y3 y4) x1.1 x1.2
      exact ⟨s, F2, w1, tkF_t y3 w2, w3, w4, w5⟩
    · rw [if_neg z]
      exact ⟨_, F1, rfl, y3, (by first | decide | omega), x1.1, x1.2⟩
end
end
