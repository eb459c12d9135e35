section
/-! ===== a number of sevens taken ===== -/
theorem zor7s {w b : Int} (h0 : 0 ≤ w) (h1 : w < 16777216) (h2 : 0 ≤ b) (h3 : b < 128) : zor (zshl w 7) b = w * 128 + b := by
  obtain ⟨n, rfl⟩ := Int.eq_ofNat_of_zero_le h0
  obtain ⟨m, rfl⟩ := Int.eq_ofNat_of_zero_le h2
  have k1 : (BitVec.ofInt 32 (n : Int)).toNat = n := by
    rw [BitVec.toNat_ofInt]
    show ((n : Int) % 4294967296).toNat = n
    omega
  have k2 : (BitVec.ofInt 32 (m : Int)).toNat = m := by
    rw [BitVec.toNat_ofInt]
    show ((m : Int) % 4294967296).toNat = m
    omega
  have e0 : (BitVec.ofInt 32 (n : Int) <<< (7 : Nat)).toNat = n * 128 := by
    rw [BitVec.toNat_shiftLeft, k1, Nat.shiftLeft_eq]
    show n * 128 % 4294967296 = n * 128
    omega
  have e1 : zshl (n : Int) 7 = ((n * 128 : Nat) : Int) := by
    show (BitVec.ofInt 32 (n : Int) <<< (7 : Nat)).toInt = _
    rw [BitVec.toInt_eq_toNat_of_lt (by rw [e0]; omega), e0]
  have k3 : (BitVec.ofInt 32 ((n * 128 : Nat) : Int)).toNat = n * 128 := by
    rw [BitVec.toNat_ofInt]
    show (((n * 128 : Nat) : Int) % 4294967296).toNat = n * 128
    omega
  have e2 : (BitVec.ofInt 32 ((n * 128 : Nat) : Int) ||| BitVec.ofInt 32 (m : Int)).toNat = n * 128 + m := by
    rw [BitVec.toNat_or, k3, k2]
    have := Nat.shiftLeft_add_eq_or_of_lt (a := n) (b := m) (i := 7) (by omega)
    rw [Nat.shiftLeft_eq] at this
    exact this.symm
  rw [e1]
  show (BitVec.ofInt 32 ((n * 128 : Nat) : Int) ||| BitVec.ofInt 32 (m : Int)).toInt = _
  rw [BitVec.toInt_eq_toNat_of_lt (by rw [e2]; omega), e2]
  omega
theorem rm128_f : ∀ x : Fin 256, zrm (x.val : Int) 128 = (x.val : Int) % 128 ∧ zand (x.val : Int) 127 = (x.val : Int) % 128 := by decide +kernel
theorem rm128 {x : Int} (h0 : 0 ≤ x) (h1 : x < 256) : zrm x 128 = x % 128 ∧ zand x 127 = x % 128 := by
  have := rm128_f ⟨x.toNat, by omega⟩
  rwa [show (((⟨x.toNat, by omega⟩ : Fin 256).val : Nat) : Int) = x by show ((x.toNat : Nat) : Int) = x; omega] at this
/-- behind a fault the class goes on, and nothing comes of it -/
theorem C_dlX {K : zK} {o : Int} {B : zB} {Fm : zF} {Bm : zB} (h0 : 2 ≤ K.2 0) (ho : 0 ≤ o ∧ o < K.2 8) : ∀ (d k m : Nat) (v : Int) (F : zF), k + d = 4 → d < m → (0 ≤ v ∧ v < 128 ^ k) → RO o F B Fm Bm → RX o F Fm → F 8 o 6 ≤ F 0 0 1 → ∃ r F', f_SoundFile_takeDelta_4 K m k v o F B = some (r, F', B) ∧ tkF o F F' ∧ (0 ≤ r ∧ r < 268435456) ∧ RX o F' Fm ∧ F' 8 o 6 ≤ F' 0 0 1 := by
  intro d
  induction d with
  | zero =>
    intro k m v F e hm hv hO hX h6
    obtain ⟨p, rfl⟩ : ∃ p, m = p + 1 := ⟨m - 1, by omega⟩
    rw [f_SoundFile_takeDelta_4, if_pos (by unfold r32; omega), if_pos (by omega), if_pos ho, C_refX ho hX, zb_s]
    exact ⟨0, F, rfl, fun _ _ _ _ => rfl, by omega, hX, h6⟩
  | succ d ih =>
    intro k m v F e hm hv hO hX h6
    obtain ⟨p, rfl⟩ : ∃ p, m = p + 1 := ⟨m - 1, by omega⟩
    obtain ⟨r, F1, B1, r', G1, D1, e1, e2, rfl, rfl, y3, y4, y5, y6, y7, y8⟩ := P_tk (Km := 0) (a := 0) h0 ho hO (Or.inr ⟨hX, h6⟩)
    have eg : G1 = Fm := by
      unfold f_M_next at e2
      rw [L_goodX hX, zb_s, if_pos (by decide), if_pos rfl] at e2
      exact (congrArg (fun z => z.2.1) (Option.some.inj e2)).symm
    rw [eg] at y4 y7 y8
    have x1 : RX o F1 Fm ∧ F1 8 o 6 ≤ F1 0 0 1 := by
      rcases y7 with ⟨g, _⟩ | q
      · have := g.2.1; have := hX.2.1; omega
      · exact q
    have hp : (128 : Int) ^ (k + 1) = 128 ^ k * 128 := Int.pow_succ 128 k
    have b4 : (128 : Int) ^ (k + 1) ≤ 268435456 := by
      have : k = 0 ∨ k = 1 ∨ k = 2 ∨ k = 3 := by omega
      rcases this with rfl | rfl | rfl | rfl <;> decide
    have rm := (rm128 y5.1 y5.2).1
    rw [f_SoundFile_takeDelta_4, if_pos (by unfold r32; omega), if_neg (by omega), if_pos ho, e1, zb_s, if_pos (by unfold r32; omega), rm]
    by_cases z : 128 ≤ r
    · rw [if_pos z, show (k : Int) + 1 = ((k + 1 : Nat) : Int) by omega]
      obtain ⟨s, F2, w1, w2, w3, w4, w5⟩ := ih (k + 1) p (v * 128 + r % 128) F1 (by omega) (by omega) (by omega) (RO_t hO y3 y4) x1.1 x1.2
      exact ⟨s, F2, w1, tkF_t y3 w2, w3, w4, w5⟩
    · rw [if_neg z]
      exact ⟨_, F1, rfl, y3, by omega, x1.1, x1.2⟩
end
