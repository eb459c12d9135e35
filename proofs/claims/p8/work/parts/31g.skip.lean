section
/-! ===== numbers of sevens and skips, with or without a fault ===== -/
def DQ (o a : Int) (F : zF) (B : zB) (Fm : zF) (Bm : zB) : Int → zF → zB → Int → zF → zB → Prop := fun r F' B' r' Fm' Bm' => B' = B ∧ Bm' = Bm ∧ tkF o F F' ∧ tkG Fm Fm' ∧ (0 ≤ r ∧ r < 268435456) ∧ (0 ≤ r' ∧ r' < 268435456) ∧ ((∃ a', a < a' ∧ RG o a' F' Fm' ∧ 0 ≤ F' 8 o 6 ∧ r' = r ∧ Fm 14 0 17 = 0) ∨ (RX o F' Fm' ∧ F' 8 o 6 ≤ F' 0 0 1))
theorem P_dlt {K : zK} {Km : Nat} {o a : Int} {F : zF} {B : zB} {Fm : zF} {Bm : zB} (h0 : 2 ≤ K.2 0) (ho : 0 ≤ o ∧ o < K.2 8) (hK : 10 ≤ K.1) (hKm : 10 ≤ Km) (a0 : 0 ≤ a) (hO : RO o F B Fm Bm) (hQ : RQo o a F Fm) : zP (f_SoundFile_takeDelta K o F B) (f_M_seven Km Fm Bm) (DQ o a F B Fm Bm) := by
  rcases hQ with ⟨g, g6⟩ | ⟨x, x6⟩
  · obtain ⟨s, F2, B2, s', G2, D2, e1, e2, w1, w2, w3, w4, w5, w6, w7⟩ := P_dl (Km := Km) h0 ho 4 0 K.1 Km a 0 128 F B Fm Bm (by first | decide | omega) (by first | decide | omega) (by first | decide | omega) ⟨(by first | decide | omega), by decide⟩ (by first | decide | omega) (by first | decide | omega) hO g g6
    refine ⟨s, F2, B2, s', G2, D2, e1, e2, w1, w2, w3, w4, w5, w6, ?_⟩
    rcases w7 with ⟨a', q1, q2, q3, q4⟩ | q
    · exact Or.inl ⟨a', q1, q2, q3, q4, g.2.1⟩
    · exact Or.inr q
  · obtain ⟨m, em⟩ : ∃ m, Km = m + 1 := ⟨Km - 1, (by first | decide | omega)⟩
    obtain ⟨s, F2, w1, w2, w3, w4, w5⟩ := C_dlX (Bm := Bm) h0 ho 4 0 K.1 0 F (by first | decide | omega) (by first | decide | omega) ⟨(by first | decide | omega), by decide⟩ hO x x6
    have e : f_M_seven Km Fm Bm = some (0, Fm, Bm) := by
      show f_M_seven_8 Km Km 0 128 0 Fm Bm = _
      have := L_8X (Km := Km) (m := m) (p := 128) (v := 0) (k := 0) (Bm := Bm) (by first | decide | omega) x
      rw [← em] at this
      exact this
    exact ⟨s, F2, B, 0, Fm, Bm, w1, e, rfl, rfl, w2, fun _ _ _ _ => rfl, w3, (by first | decide | omega), Or.inr ⟨w4, w5⟩⟩
/-- the reference alone: no fault, at byte a, its end at L -/
def GSm (a L : Int) (Fm : zF) : Prop := Fm 14 0 17 = 0 ∧ (Fm 14 0 89 = a ∧ 0 ≤ a ∧ a ≤ 3000) ∧ (0 ≤ Fm 14 0 90 ∧ Fm 14 0 90 ≤ 1099511627776) ∧ (0 ≤ Fm 14 0 3 ∧ Fm 14 0 3 ≤ 3000) ∧ (L ≤ Fm 14 0 90 ∧ L ≤ Fm 14 0 3 ∧ (L = Fm 14 0 90 ∨ L = Fm 14 0 3))
theorem GSm_of {o a : Int} {F : zF} {B : zB} {Fm : zF} {Bm : zB} (hO : RO o F B Fm Bm) (g : RG o a F Fm) : GSm a (F 8 o 6) Fm := by
  obtain ⟨o4, ⟨n1, n2, n3⟩, o5, o6⟩ := hO
  obtain ⟨g7, g17, ⟨a1, a2, a3, a4⟩, ⟨l1, l2⟩, m⟩ := g
  exact ⟨g17, ⟨a2, a3, a4⟩, ⟨l1, l2⟩, (by first | decide | omega), m.1, m.2.1, m.2.2.1⟩
theorem L_nx {Km : Nat} {a L : Int} {Fm : zF} {Bm : zB} (h : GSm a L Fm) (z : a < L) : f_M_next Km Fm Bm = some (tmB Bm a, zup3 Fm 14 0 89 (a + 1), Bm) := by
  obtain ⟨g17, ⟨a2, a3, a4⟩, ⟨l1, l2⟩, ⟨n1, n2⟩, ⟨m1, m2, m3⟩⟩ := h
  unfold f_M_next
  rw [L_good g17, zb_s, if_pos (show r32 1 by decide), if_neg (show ¬ (1 : Int) = 0 by decide), a2, if_pos (show r32 a by unfold r32; omega), if_pos (show r64 a by unfold r64; omega), if_pos (show r64 (Fm 14 0 90) by unfold r64; omega), if_neg (fun x => by have := zcmp_o.mp x; omega), if_pos (show r32 (Fm 14 0 3) by unfold r32; omega), if_pos (show a < Fm 14 0 3 by omega), show a + 1 - 1 = a by omega, L_byteA a3 (by first | decide | omega), zb_s]
theorem L_nxE {Km : Nat} {a L : Int} {Fm : zF} {Bm : zB} (h : GSm a L Fm) (z : L ≤ a) : f_M_next Km Fm Bm = some (0, zup3 (zup3 Fm 14 0 17 2) 14 0 18 L, Bm) := by
  obtain ⟨g17, ⟨a2, a3, a4⟩, ⟨l1, l2⟩, ⟨n1, n2⟩, ⟨m1, m2, m3⟩⟩ := h
  unfold f_M_next
  rw [L_good g17, zb_s, if_pos (show r32 1 by decide), if_neg (show ¬ (1 : Int) = 0 by decide), a2, if_pos (show r32 a by unfold r32; omega), if_pos (show r64 a by unfold r64; omega), if_pos (show r64 (Fm 14 0 90) by unfold r64; omega)]
  have e : f_M_next_33 Km Fm Bm = some (0, zup3 (zup3 Fm 14 0 17 2) 14 0 18 L, Bm) := by
    unfold f_M_next_33 f_M_next_60
    rw [if_pos (by unfold r32; omega), if_pos (by unfold r64; omega), if_pos (by unfold r64; omega)]
    by_cases y : Fm 14 0 3 ≤ Fm 14 0 90
    · rw [if_pos (zcmp_o.mpr y), if_pos (by unfold r32; omega), L_fb g17, zb_s, show Fm 14 0 3 = L by omega]
    · rw [if_neg (fun x => y (zcmp_o.mp x)), if_pos (by unfold r32; omega), L_fb g17, zb_s, show Fm 14 0 90 = L by omega]
  by_cases y : Fm 14 0 90 ≤ a
  · rw [if_pos (zcmp_o.mpr y), e]
  · rw [if_neg (fun x => y (zcmp_o.mp x)), if_pos (by unfold r32; omega), if_neg (by first | decide | omega), e]
/-- a loop that takes n bytes while all is well, and goes on at Z -/
def SKW (Km : Nat) (n : Int) (W : Nat → Int → zF → zB → zO) (Z : zF → zB → zO) : Prop := (∀ m k F B, 0 ≤ k → k < n → F 14 0 17 = 0 → W (m + 1) k F B = zbind (f_M_next Km F B) (fun _ F B => W m (k + 1) F B)) ∧ (∀ m k F B, 0 ≤ k → n ≤ k → k ≤ n → W (m + 1) k F B = Z F B) ∧ (∀ m k F B, 0 ≤ k → k ≤ n → F 14 0 17 = 2 → W (m + 1) k F B = Z F B)
theorem L_skG {Km : Nat} {n : Int} {W : Nat → Int → zF → zB → zO} {Z : zF → zB → zO} (hW : SKW Km n W Z) {L : Int} {Bm : zB} : ∀ (d m : Nat) (k a : Int) (Fm : zF), k + d = n → 0 ≤ k → d < m → a + d ≤ L → GSm a L Fm → ∃ Fm', W m k Fm Bm = Z Fm' Bm ∧ (∀ c y k, ¬ (c = 14 ∧ y = 0 ∧ k = 89) → Fm' c y k = Fm c y k) ∧ Fm' 14 0 89 = a + d := by
  intro d
  induction d with
  | zero =>
    intro m k a Fm e k0 hm hl g
    obtain ⟨p, rfl⟩ : ∃ p, m = p + 1 := ⟨m - 1, (by first | decide | omega)⟩
    refine ⟨Fm, hW.2.1 p k Fm Bm k0 (by first | decide | omega) (by first | decide | omega), fun _ _ _ _ => rfl, ?_⟩
    rw [g.2.1.1]; omega
  | succ d ih =>
    intro m k a Fm e k0 hm hl g
    obtain ⟨p, rfl⟩ : ∃ p, m = p + 1 := ⟨m - 1, (by first | decide | omega)⟩
    have g2 : GSm (a + 1) L (zup3 Fm 14 0 89 (a + 1)) := by
      obtain ⟨g17, ⟨a2, a3, a4⟩, ⟨l1, l2⟩, ⟨n1, n2⟩, ⟨m1, m2, m3⟩⟩ := g
      unfold GSm
      simp only [zup3_v]
      simp
      omega
    obtain ⟨F1, e1, e2, e3⟩ := ih p (k + 1) (a + 1) (zup3 Fm 14 0 89 (a + 1)) (by first | decide | omega) (by first | decide | omega) (by first | decide | omega) (by first | decide | omega) g2
    refine ⟨F1, ?_, fun c y k z => ?_, (by first | decide | omega)⟩
    · rw [hW.1 p k Fm Bm k0 (by first | decide | omega) g.1, L_nx g (by first | decide | omega), zb_s, e1]
    · rw [e2 c y k z, zup3_v, if_neg (by first | decide | omega)]
theorem L_skX {Km : Nat} {n : Int} {W : Nat → Int → zF → zB → zO} {Z : zF → zB → zO} (hW : SKW Km n W Z) {L : Int} {Bm : zB} : ∀ (d m : Nat) (k a : Int) (Fm : zF), a + d = L ∨ (d = 0 ∧ L ≤ a) → L - a < n - k → 0 ≤ k → k < n → d + 1 < m → GSm a L Fm → ∃ Fm', W m k Fm Bm = Z Fm' Bm ∧ tkG Fm Fm' ∧ Fm' 14 0 17 = 2 ∧ Fm' 14 0 18 = L ∧ (0 ≤ Fm' 14 0 89 ∧ Fm' 14 0 89 ≤ 3000) := by
  intro d
  induction d with
  | zero =>
    intro m k a Fm e hn k0 k1 hm g
    obtain ⟨p, rfl⟩ : ∃ p, m = p + 1 + 1 := ⟨m - 2, (by first | decide | omega)⟩
    refine ⟨zup3 (zup3 Fm 14 0 17 2) 14 0 18 L, ?_, fun c y k z => by rw [zup3_v, if_neg (by first | decide | omega), zup3_v, if_neg (by first | decide | omega)], by rw [zup3_v, if_neg (by first | decide | omega), zup3_v, if_pos (by first | decide | omega)], by rw [zup3_v, if_pos (by first | decide | omega)], by rw [zup3_v, if_neg (by first | decide | omega), zup3_v, if_neg (by first | decide | omega), g.2.1.1]; exact g.2.1.2⟩
    rw [hW.1 (p + 1) k Fm Bm k0 k1 g.1, L_nxE g (by first | decide | omega), zb_s, hW.2.2 p (k + 1) _ Bm (by first | decide | omega) (by first | decide | omega) (by rw [zup3_v, if_neg (by first | decide | omega), zup3_v, if_pos (by first | decide | omega)])]
  | succ d ih =>
    intro m k a Fm e hn k0 k1 hm g
    obtain ⟨p, rfl⟩ : ∃ p, m = p + 1 := ⟨m - 1, (by first | decide | omega)⟩
    have g2 : GSm (a + 1) L (zup3 Fm 14 0 89 (a + 1)) := by
      obtain ⟨g17, ⟨a2, a3, a4⟩, ⟨l1, l2⟩, ⟨n1, n2⟩, ⟨m1, m2, m3⟩⟩ := g
      unfold GSm
      simp only [zup3_v]
      simp
      omega
    obtain ⟨F1, e1, e2, e3, e4, e5⟩ := ih p (k + 1) (a + 1) (zup3 Fm 14 0 89 (a + 1)) (by first | decide | omega) (by first | decide | omega) (by first | decide | omega) (by first | decide | omega) (by first | decide | omega) g2
    refine ⟨F1, ?_, fun c y k z => ?_, e3, e4, e5⟩
    · rw [hW.1 p k Fm Bm k0 (by first | decide | omega) g.1, L_nx g (by first | decide | omega), zb_s, e1]
    · rw [e2 c y k z, zup3_v, if_neg (by first | decide | omega)]
theorem C_skip {K : zK} {o a n : Int} {F : zF} {B : zB} {Fm : zF} (ho : 0 ≤ o ∧ o < K.2 8) (n0 : 0 ≤ n ∧ n ≤ 17179869184) (g : RG o a F Fm) (n3 : 0 ≤ F 8 o 6 ∧ Fm 14 0 3 ≤ 3000) : f_SoundFile_skip K o n F B = some (0, if a + n ≤ F 8 o 6 then zup3 F 8 o 5 (a + n) else zup3 F 8 o 7 (2 + 16 * F 8 o 6), B) := by
  obtain ⟨g7, g17, ⟨a1, a2, a3, a4⟩, ⟨l1, l2⟩, ⟨m1, m2, m3⟩⟩ := g
  unfold f_SoundFile_skip f_SoundFile_skip_46
  rw [if_pos ho, a1, if_pos (show r32 a by unfold r32; omega), if_pos (show r32 (F 8 o 6) by unfold r32; omega), if_pos (show r64 (a + n) by unfold r64; omega), if_pos (show r64 (F 8 o 6) by unfold r64; omega), g7, if_pos (show r32 0 by decide), if_pos (show (0 : Int) = 0 from rfl)]
  by_cases z : a + n ≤ F 8 o 6
  · rw [if_pos (zcmp_m.mpr z), if_pos z]
  · rw [if_neg (fun x => z (zcmp_m.mp x)), if_neg z, C_ref ho g7, zb_s]
theorem C_skipX {K : zK} {o n : Int} {F : zF} {B : zB} {Fm : zF} (ho : 0 ≤ o ∧ o < K.2 8) (n0 : -17179869184 ≤ n ∧ n ≤ 17179869184) (x : RX o F Fm) : f_SoundFile_skip K o n F B = some (0, F, B) := by
  have x' := x
  obtain ⟨x7, x17, x18, x5, x6, x6'⟩ := x
  unfold f_SoundFile_skip f_SoundFile_skip_46
  rw [if_pos ho, if_pos (by unfold r32; omega), if_pos (by unfold r32; omega), if_pos (by unfold r64; omega), if_pos (by unfold r64; omega)]
  by_cases z : zcmp (F 8 o 5 + n) (F 8 o 6) ≤ 0
  · rw [if_pos z, if_pos (by unfold r32; omega), if_neg (by first | decide | omega)]
  · rw [if_neg z, C_refX ho x', zb_s]
/-- a skip, both sides -/
theorem P_skp {K : zK} {Km : Nat} {n : Int} {W : Nat → Int → zF → zB → zO} {Z : zF → zB → zO} {o a : Int} {F : zF} {B : zB} {Fm : zF} {Bm : zB} {m : Nat} (hW : SKW Km n W Z) (hm : 3002 < m) (ho : 0 ≤ o ∧ o < K.2 8) (n0 : 0 ≤ n ∧ n ≤ 17179869184) (hO : RO o F B Fm Bm) (g : RG o a F Fm) (g6 : 0 ≤ F 8 o 6) : ∃ F' Fm', f_SoundFile_skip K o n F B = some (0, F', B) ∧ W m 0 Fm Bm = Z Fm' Bm ∧ tkF o F F' ∧ tkG Fm Fm' ∧ ((RG o (a + n) F' Fm' ∧ 0 ≤ F' 8 o 6 ∧ a + n ≤ F 8 o 6) ∨ (RX o F' Fm' ∧ F' 8 o 6 ≤ F' 0 0 1)) := by
  have hs := GSm_of hO g
  obtain ⟨o4, ⟨q1, q2, q3⟩, o5, o6⟩ := hO
  have hc := C_skip (K := K) (B := B) ho n0 g ⟨g6, (by first | decide | omega)⟩
  have g' := g
  obtain ⟨g7, g17, ⟨a1, a2, a3, a4⟩, ⟨l1, l2⟩, ⟨m1, m2, m3⟩⟩ := g'
  by_cases z : a + n ≤ F 8 o 6
  · rw [if_pos z] at hc
    obtain ⟨F1, e1, e2, e3⟩ := L_skG hW (Bm := Bm) n.toNat m 0 a Fm (by first | decide | omega) (by first | decide | omega) (by first | decide | omega) (by first | decide | omega) hs
    refine ⟨_, F1, hc, e1, fun c y k w => by rw [zup3_v, if_neg (by first | decide | omega)], fun c y k w => e2 c y k (by first | decide | omega), Or.inl ⟨?_, by rw [zup3_v, if_neg (by first | decide | omega)]; exact g6, z⟩⟩
    unfold RG
    rw [e2 14 0 17 (by first | decide | omega), e2 14 0 90 (by first | decide | omega), e2 14 0 3 (by first | decide | omega), e3]
    simp only [zup3_v]
    simp
    omega
  · rw [if_neg z] at hc
    obtain ⟨F1, e1, e2, e3, e4, e5⟩ := L_skX hW (Bm := Bm) (F 8 o 6 - a).toNat m 0 a Fm (by first | decide | omega) (by first | decide | omega) (by first | decide | omega) (by first | decide | omega) (by first | decide | omega) hs
    refine ⟨_, F1, hc, e1, fun c y k w => by rw [zup3_v, if_neg (by first | decide | omega)], e2, Or.inr ⟨?_, ?_⟩⟩
    · unfold RX
      rw [e3, e4]
      simp only [zup3_v]
      simp
      omega
    · rw [zup3_v, if_neg (by first | decide | omega), zup3_v, if_neg (by first | decide | omega)]
      omega
end
