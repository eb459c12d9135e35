section
/-! ===== the start ===== -/
theorem stS (f : Nat) : ∃ F B K, f_S_init (f, fun _ => 0) zF0 zB0 = some (0, F, B, K) ∧ K.1 = f ∧ (K.2 0 = 2 ∧ K.2 1 = 1 ∧ K.2 2 = 0 ∧ K.2 3 = 1 ∧ K.2 4 = 0 ∧ K.2 5 = 0 ∧ K.2 6 = 0 ∧ K.2 7 = 1 ∧ K.2 8 = 0 ∧ K.2 9 = 0 ∧ K.2 10 = 1 ∧ K.2 11 = 1 ∧ K.2 12 = 1) ∧ (F 12 0 0 = 0 ∧ F 12 0 2 = 1 ∧ F 12 0 4 = 0 ∧ F 12 0 5 = 0 ∧ F 12 0 6 = 0 ∧ F 12 0 7 = -1 ∧ F 12 0 8 = -1 ∧ F 12 0 9 = -1) ∧ (F 3 0 11 = 0 ∧ F 0 0 1 = 0 ∧ F 0 1 1 = 0 ∧ F 7 0 4 = 0) ∧ (∀ j, B 10 0 5 j = 0) ∧ (∀ y, B 0 0 0 y = 0) ∧ (∀ y, B 12 0 1 y = 0) ∧ B 12 0 3 0 = -1 ∧ B 12 0 3 1 = -1 := ⟨_, _, _, rfl, rfl, ⟨rfl, rfl, rfl, rfl, rfl, rfl, rfl, rfl, rfl, rfl, rfl, rfl, rfl⟩, ⟨rfl, rfl, rfl, rfl, rfl, rfl, rfl, rfl⟩, ⟨rfl, rfl, rfl, rfl⟩, fun _ => rfl, fun _ => rfl, fun _ => rfl, rfl, rfl⟩
theorem stP {K : zK} {F : zF} {B : zB} (h : 0 ≤ K.2 13) : f_MP_init K F B = some (K.2 13, zinF F 13 (K.2 13) [0, 0, 0, 0, 0, 0, 0, 0, 0, 0, 0, 0, 0, 0, 0, 0, 0, 0, 0, 0, 0, 0, 0, 0, 0, 0, 0, 0, 0, 0, 0, 0, 0, 0, 0, 0, 0, 0, 0, 0, 0, 0, 0, 0, 0, 0, 0, 0, 0, 0, 0, 0, 0, 0, 0, 0, 0, 0, 0, 0, 0, 0, 0, 0, 0, 0, 0, 0, 0, 0, 0, 0, 0, 0, 0, 0, 0, 0, 0, 0, 0], zinB B 13 (K.2 13) (fun _ _ => 0), (K.1, zinN K.2 13)) := by
  unfold f_MP_init
  rw [if_pos h]
theorem stM : ∃ F B, f_M_init (20, fun _ => 0) zF0 zB0 = some (0, F, B, (20, zinN (zinN (zinN (zinN (fun _ => 0) 13) 13) 13) 14)) ∧ (F 14 0 3 = 0 ∧ F 14 0 6 = 2 ∧ F 14 0 71 = 0 ∧ F 14 0 72 = 0) ∧ (F 13 0 0 = 0 ∧ F 13 1 0 = 0 ∧ F 13 0 53 = 0 ∧ F 13 1 53 = 0 ∧ F 13 2 53 = 0) ∧ (∀ y, B 14 0 2 y = 0) ∧ (∀ y, B 14 0 4 y = 0) ∧ (B 14 0 5 0 = 0 ∧ B 14 0 5 1 = 1) ∧ (rowIs (B 14 0 13) wC 0 ∧ rowIs (B 14 0 14) wL 0 ∧ rowIs (B 14 0 15) wM 0) ∧ (∀ y, B 14 0 58 y = 0) ∧ (∀ i k x, B 13 i k x = 0) ∧ (∀ k : Fin 8, B 14 0 61 (k.val : Int) = 20 + 13 * (k.val : Int)) ∧ (∀ k : Fin 89, 7 ≤ B 14 0 96 (k.val : Int) ∧ B 14 0 96 (k.val : Int) ≤ 32767) ∧ (∀ k : Fin 8, -1 ≤ B 14 0 97 (k.val : Int) ∧ B 14 0 97 (k.val : Int) ≤ 8) ∧ (∀ k : Fin 24, 0 ≤ B 14 0 106 (k.val : Int) ∧ B 14 0 106 (k.val : Int) ≤ 1000) := by
  unfold f_M_init
  rw [bindM_some (stP (K := (20, fun _ => 0)) (F := zF0) (B := zB0) (by decide)), if_pos (by decide)]
  rw [bindM_some (stP (K := (20, zinN (fun _ => 0) 13)) (by decide)), if_pos (by decide), if_pos (by decide)]
  rw [bindM_some (stP (K := (20, zinN (zinN (fun _ => 0) 13) 13)) (by decide)), if_pos (by decide), if_pos (by decide), if_pos (by decide)]
  rw [bindN_some mcode_23]
  rw [bindN_some mcode_24]
  rw [bindN_some mcode_25]
  rw [bindN_some mcode_26]
  rw [bindN_some mcode_27]
  rw [bindN_some mcode_28]
  rw [bindN_some mcode_29]
  rw [bindN_some mcode_30]
  rw [bindN_some mcode_31]
  rw [bindN_some mcode_32]
  rw [bindN_some mcode_33]
  rw [bindN_some mcode_34]
  repeat rw [if_pos (by decide)]
  refine ⟨_, _, rfl, ⟨rfl, rfl, rfl, rfl⟩, ⟨rfl, rfl, rfl, rfl, rfl⟩, fun _ => rfl, fun _ => rfl, ⟨rfl, rfl⟩, ⟨⟨rfl, rfl, rfl, rfl, True.intro⟩, ⟨rfl, rfl, rfl, rfl, rfl, rfl, rfl, rfl, True.intro⟩, ⟨rfl, rfl, rfl, rfl, rfl, rfl, rfl, rfl, rfl, rfl, rfl, rfl, rfl, rfl, rfl, True.intro⟩⟩, fun _ => rfl, fun i k x => ?_, by decide, by decide, by decide, by decide⟩
  rw [zinB_v, if_neg (by first | decide | omega), zinB_v]
  split
  · rfl
  · rw [zinB_v]
    split
    · rfl
    · rw [zinB_v]
      split
      · rfl
      · rfl
theorem finT {P : Int → Prop} {n : Nat} (h : ∀ k : Fin n, P (k.val : Int)) : ∀ x : Int, 0 ≤ x → x < n → P x := fun x x0 x1 => by
  have k := h ⟨x.toNat, (by first | decide | omega)⟩
  rw [show (((⟨x.toNat, (by first | decide | omega)⟩ : Fin n).val : Nat) : Int) = x by show ((x.toNat : Nat) : Int) = x; omega] at k
  exact k
theorem stIV : ∃ F B K Fm Bm, f_S_init (1000000, fun _ => 0) zF0 zB0 = some (0, F, B, K) ∧ f_M_init (20, fun _ => 0) zF0 zB0 = some (0, Fm, Bm, (20, zinN (zinN (zinN (zinN (fun _ => 0) 13) 13) 13) 14)) ∧ IV 0 1099511627776 K F B Fm Bm := by
  obtain ⟨F, B, K, e1, k1, ⟨c0, c1, c2, c3, c4, c5, c6, c7, c8, c9, c10, c11, c12⟩, ⟨f0, f2, f4, f5, f6, f7, f8, f9⟩, ⟨g3, g0, g1, g7⟩, b10, b0, b12, b30, b31⟩ := stS 1000000
  obtain ⟨Fm, Bm, e2, ⟨m3, m6, m71, m72⟩, ⟨w00, w10, w53, w153, w253⟩, r2, r4, ⟨r50, r51⟩, mw, r58, r13, t61, t96, t97, t106⟩ := stM
  refine ⟨F, B, K, Fm, Bm, e1, e2, -1, -1, -1, 2, 0, 1, ⟨⟨⟨(by first | decide | omega), by decide, (by first | decide | omega)⟩, ⟨f0, f2, f4, f5, f6, g3⟩, ⟨⟨fun c hc => ?_, fun p v p0 p1 => (by first | decide | omega), fun p v p' v' p0 p1 => (by first | decide | omega), fun q x q0 q1 => (by first | decide | omega), fun q x q' x' q0 q1 => (by first | decide | omega)⟩, fun j => by rw [b10]; decide, fun q s q0 q1 => (by first | decide | omega), mw, ⟨fun s => by rw [r58]; decide, fun i x => ?_⟩, fun i x => ?_, fun i x => ?_⟩, ⟨by rw [g0, m3], (by first | decide | omega), (by first | decide | omega), fun y => by rw [b0]; omega, ?_⟩, ⟨f7, b30, b31, m6, r50, r51⟩, ?_, ?_, ?_, fun p p0 p1 => (by first | decide | omega), Or.inl ⟨by decide, w00⟩, Or.inl ⟨by decide, w10⟩⟩, finT (P := fun l => Bm 14 0 61 l = 20 + 13 * l) (n := 8) t61, ⟨fun y y0 y1 => (by first | decide | omega), fun k hk y y' y0 y1 => (by first | decide | omega)⟩, fun z => absurd z (by decide), fun z => absurd z (by decide), ⟨⟨by decide, ?_⟩, fun l l0 l1 => (by first | decide | omega), fun s s0 s1 => (by first | decide | omega), fun t t0 t1 => (by first | decide | omega), fun y y0 y1 => (by first | decide | omega), fun i i0 i1 z => ?_, finT (P := fun l => 7 ≤ Bm 14 0 96 l ∧ Bm 14 0 96 l ≤ 32767) (n := 89) t96, finT (P := fun l => -1 ≤ Bm 14 0 97 l ∧ Bm 14 0 97 l ≤ 8) (n := 8) t97, finT (P := fun l => 0 ≤ Bm 14 0 106 l ∧ Bm 14 0 106 l ≤ 1000) (n := 24) t106⟩, fun z => absurd z (by decide), fun z => absurd z (by decide)⟩, ⟨by rw [g1, m71], (by first | decide | omega), fun j j0 j1 => (by first | decide | omega)⟩, ⟨(by first | decide | omega), fun z => (by first | decide | omega), Or.inl ⟨(by first | decide | omega), (by first | decide | omega), c8⟩, Or.inl ⟨(by first | decide | omega), m72⟩⟩, g7, fun y y0 y1 => by rw [b12, r4], (by first | decide | omega)⟩
  · rcases hc with rfl | rfl | rfl
    · omega
    · omega
    · omega
  · rw [r13, r13, r13, r13, r13, r13]; exact ⟨by decide, by decide, by decide, by decide, by decide, by decide⟩
  · rw [r13, r13, r13]; exact ⟨by decide, by decide, by decide⟩
  · rw [r13, r13, r13, r13]; exact ⟨by decide, by decide, by decide, by decide⟩
  · funext y
    show Bm 14 0 2 y % 256 = B 0 0 0 y
    rw [r2, b0]; rfl
  · unfold IW; omega
  · unfold IQp; omega
  · unfold IG slN slE
    rw [if_pos (by decide), if_pos (by decide)]
    omega
  · unfold IKn ngk ng3
    rw [c6, c2, c5, c9, if_neg (by first | decide | omega), if_neg (by first | decide | omega), if_neg (by first | decide | omega), if_neg (by first | decide | omega), if_neg (by first | decide | omega), if_neg (by first | decide | omega), if_neg (by first | decide | omega), if_neg (by first | decide | omega), if_neg (by first | decide | omega)]
    decide
  · have : i = 0 ∨ i = 1 ∨ i = 2 := by omega
    rcases this with rfl | rfl | rfl
    · exact absurd w53 z
    · exact absurd w153 z
    · exact absurd w253 z
end
