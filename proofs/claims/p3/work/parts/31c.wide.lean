section
/-! ===== wide numbers taken ===== -/
def bwn (k : Nat) : Int := 256 ^ k - 1
theorem bwn_s (k : Nat) : bwn (k + 1) = 256 * bwn k + 255 := by
  unfold bwn
  rw [Int.pow_succ]
  omega
theorem bwn_4 {k : Nat} (h : k ≤ 4) : 0 ≤ bwn k ∧ bwn k ≤ 4294967295 := by
  have : k = 0 ∨ k = 1 ∨ k = 2 ∨ k = 3 ∨ k = 4 := by omega
  rcases this with rfl | rfl | rfl | rfl | rfl <;> decide
/-- with or without a fault, at byte a -/
def RQo (o a : Int) (F : zF) (Fm : zF) : Prop := (RG o a F Fm ∧ 0 ≤ F 8 o 6) ∨ (RX o F Fm ∧ F 8 o 6 ≤ F 0 0 1)
theorem P_tk {K : zK} {Km : Nat} {o a : Int} {F : zF} {B : zB} {Fm : zF} {Bm : zB} (h0 : 2 ≤ K.2 0) (ho : 0 ≤ o ∧ o < K.2 8) (hO : RO o F B Fm Bm) (hQ : RQo o a F Fm) : zP (f_SoundFile_take K o F B) (f_M_next Km Fm Bm) (fun r F' B' r' Fm' Bm' => B' = B ∧ Bm' = Bm ∧ tkF o F F' ∧ tkG Fm Fm' ∧ (0 ≤ r ∧ r < 256) ∧ (0 ≤ r' ∧ r' < 256) ∧ RQo o (a + 1) F' Fm' ∧ (Fm' 14 0 17 = 0 → Fm 14 0 17 = 0 ∧ r' = r ∧ a + 1 ≤ F 8 o 6)) := by
  have hO' := hO
  obtain ⟨o4, ⟨n1, n2, n3⟩, o5, o6⟩ := hO'
  rcases hQ with ⟨g, g6⟩ | ⟨x, x6⟩
  · obtain ⟨r, F', B', r', Fm', Bm', e1, e2, y1, y2, y3, y4, y5, y6, y7⟩ := P_take1 (Km := Km) h0 ho hO g g6
    refine ⟨r, F', B', r', Fm', Bm', e1, e2, y1, y2, y3, y4, y5, y6, ?_, fun z => ?_⟩
    · rcases y7 with ⟨_, _, q, _⟩ | q
      · exact Or.inl ⟨q, by rw [y3 8 o 6 (by omega)]; exact g6⟩
      · refine Or.inr ⟨q, ?_⟩
        rw [y3 8 o 6 (by omega), y3 0 0 1 (by omega)]
        have := g.2.2.2.2.2.1
        omega
    · rcases y7 with ⟨q1, q2, q, _⟩ | q
      · exact ⟨g.2.1, q1, q2⟩
      · have := q.2.1.1; omega
  · obtain ⟨r, F', B', r', Fm', Bm', e1, e2, y1, y2, y3, y4, y5, y6, y7⟩ := P_takeX (Km := Km) h0 ho hO x x6 a
    have xq : RX o F' Fm' := by
      rcases y7 with ⟨_, _, _, q⟩ | q
      · have := x.1; have := x.2.1; have := x.2.2.1; omega
      · exact q
    refine ⟨r, F', B', r', Fm', Bm', e1, e2, y1, y2, y3, y4, y5, y6, Or.inr ⟨xq, ?_⟩, fun z => ?_⟩
    · rw [y3 8 o 6 (by omega), y3 0 0 1 (by omega)]; exact x6
    · have := xq.2.1.1; omega
theorem P_wide {K : zK} {Km : Nat} {o l : Int} (h0 : 2 ≤ K.2 0) (ho : 0 ≤ o ∧ o < K.2 8) : ∀ (d k m1 m2 : Nat) (a v v' : Int) (F : zF) (B : zB) (Fm : zF) (Bm : zB), (k : Int) + d = l → k + d ≤ 4 → d < m1 → d < m2 → (0 ≤ v ∧ v ≤ bwn k) → (0 ≤ v' ∧ v' ≤ bwn k) → (Fm 14 0 17 = 0 → v' = v) → RO o F B Fm Bm → RQo o a F Fm → zP (f_SoundFile_takeWide_5 K m1 k v o l F B) (f_M_whole_5 Km m2 k v' l Fm Bm) (fun r F' B' r' Fm' Bm' => B' = B ∧ Bm' = Bm ∧ tkF o F F' ∧ tkG Fm Fm' ∧ (0 ≤ r ∧ r ≤ bwn (k + d)) ∧ (0 ≤ r' ∧ r' ≤ bwn (k + d)) ∧ RQo o (a + d) F' Fm' ∧ (Fm' 14 0 17 = 0 → Fm 14 0 17 = 0 ∧ r' = r)) := by
  intro d
  induction d with
  | zero =>
    intro k m1 m2 a v v' F B Fm Bm e k4 l1 l2 hv hv' hvv hO hQ
    obtain ⟨p, rfl⟩ : ∃ p, m1 = p + 1 := ⟨m1 - 1, by omega⟩
    obtain ⟨q, rfl⟩ : ∃ q, m2 = q + 1 := ⟨m2 - 1, by omega⟩
    have b := bwn_4 (k := k) (by omega)
    rw [f_SoundFile_takeWide_5, f_M_whole_5, if_pos (by unfold r32; omega), if_pos (by unfold r32; omega), if_pos (by omega), if_pos (by unfold r32; omega), if_pos (by unfold r32; omega), if_pos (by omega)]
    refine P_some ⟨rfl, rfl, fun _ _ _ _ => rfl, fun _ _ _ _ => rfl, hv, hv', ?_, fun z => ⟨z, hvv z⟩⟩
    rw [show a + ((0 : Nat) : Int) = a by omega]
    exact hQ
  | succ d ih =>
    intro k m1 m2 a v v' F B Fm Bm e k4 l1 l2 hv hv' hvv hO hQ
    obtain ⟨p, rfl⟩ : ∃ p, m1 = p + 1 := ⟨m1 - 1, by omega⟩
    obtain ⟨q, rfl⟩ : ∃ q, m2 = q + 1 := ⟨m2 - 1, by omega⟩
    have b := bwn_4 (k := k) (by omega)
    have bs := bwn_s k
    rw [f_SoundFile_takeWide_5, f_M_whole_5, if_pos (show r32 (k : Int) by unfold r32; omega), if_pos (show r32 l by unfold r32; omega), if_neg (show ¬ l ≤ (k : Int) by omega), if_pos ho, if_pos (show r32 (k : Int) by unfold r32; omega), if_pos (show r32 l by unfold r32; omega), if_neg (show ¬ l ≤ (k : Int) by omega)]
    refine P_bind (P_tk (Km := Km) h0 ho hO hQ) (fun r F1 B1 r' G1 D1 y => ?_)
    obtain ⟨rfl, rfl, y3, y4, y5, y6, y7, y8⟩ := y
    rw [if_pos (by unfold r32; omega), if_pos (by unfold r32; omega), zlor8 hv'.1 (by omega) y6.1 y6.2, show (k : Int) + 1 = ((k + 1 : Nat) : Int) by omega]
    obtain ⟨s, F2, B2, s', G2, D2, e1, e2, w1, w2, w3, w4, w5, w6, w7, w8⟩ := ih (k + 1) p q (a + 1) (v * 256 + r) (v' * 256 + r') F1 B1 G1 D1 (by omega) (by omega) (by omega) (by omega) (by omega) (by omega) (fun z => by have := hvv (y8 z).1; have := (y8 z).2.1; omega) (RO_t hO y3 y4) y7
    rw [show k + 1 + d = k + (d + 1) by omega] at w5 w6
    refine ⟨s, F2, B2, s', G2, D2, e1, e2, w1, w2, tkF_t y3 w3, tkG_t y4 w4, w5, w6, ?_, fun z => ⟨(y8 (w8 z).1).1, (w8 z).2⟩⟩
    rw [show a + ((d + 1 : Nat) : Int) = a + 1 + (d : Int) by omega]
    exact w7
end
