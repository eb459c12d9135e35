section
/-! ===== the tape: feed, end, out, exactly, on both sides ===== -/
theorem L_end {K : Nat} {l : Int} {F : zF} {B : zB} (hK : 22 ≤ K) (hl : r32 l) (h0 : 0 ≤ F 14 0 3) (h1 : F 14 0 3 ≤ 3000) :
    ((l < 0 ∨ 20 < l ∨ 3000 < F 14 0 3 + l) → f_M_end K l F B = some (-1, F, B)) ∧
    (0 ≤ l → l ≤ 20 → F 14 0 3 + l ≤ 3000 → ∃ B', f_M_end K l F B = some (F 14 0 3 + l, zup3 F 14 0 3 (F 14 0 3 + l), B') ∧ (∀ c i x, ¬ (c = 14 ∧ i = 0 ∧ x = 2) → B' c i x = B c i x) ∧ B' 14 0 2 = endRow (B 14 0 2) (B 14 0 4) (F 14 0 3) 0 l) := by
  constructor
  · intro h
    unfold f_M_end f_M_end_22
    rw [if_pos hl]
    by_cases a : l < 0
    · rw [if_pos a]
    · rw [if_neg a]
      by_cases b : 20 < l
      · rw [if_pos b]
      · rw [if_neg b, if_pos (show r32 (F 14 0 3 + l) from ⟨(by first | decide | omega), (by first | decide | omega)⟩), if_neg (by first | decide | omega)]
  · intro a b d
    unfold f_M_end
    rw [if_pos hl, if_neg (by first | decide | omega), if_neg (by first | decide | omega), if_pos (show r32 (F 14 0 3 + l) from ⟨(by first | decide | omega), (by first | decide | omega)⟩), if_pos d]
    exact L_end_loop (by first | decide | omega) a b h0 d (by first | decide | omega)
theorem C_put {K : zK} {v : Int} {F : zF} {B : zB} (hK : 0 < K.2 0) (h0 : 0 ≤ F 0 0 1) (h1 : F 0 0 1 < 3000) : f_ByteRow_put K 0 v F B = some (0, zup3 F 0 0 1 (F 0 0 1 + 1), zup4 B 0 0 0 (F 0 0 1) (zand v 255)) := by
  have e : (lnC 0 0 0 : Int) = 3000 := rfl
  unfold f_ByteRow_put
  rw [e, if_pos ⟨by decide, hK⟩, if_pos (show r32 (F 0 0 1) from ⟨(by first | decide | omega), (by first | decide | omega)⟩), if_pos (show r32 (3000 : Int) from ⟨by decide, by decide⟩), if_pos h1, if_pos ⟨h0, h1⟩]
theorem C_end_loop {K : zK} {l : Int} (hK0 : 0 < K.2 0) (hK12 : 0 < K.2 12) (hl : l ≤ 20) : ∀ {n : Nat} {k : Int} {F : zF} {B : zB}, 0 ≤ k → k ≤ l → F 12 0 0 = 0 → 0 ≤ F 0 0 1 → F 0 0 1 + (l - k) ≤ 3000 → l - k < n → ∃ F' B', f_S_end_29 K n k 0 l F B = some (F 0 0 1 + (l - k), F', B') ∧ F' 0 0 1 = F 0 0 1 + (l - k) ∧ (∀ c i x, ¬ (c = 0 ∧ i = 0 ∧ x = 1) → F' c i x = F c i x) ∧ (∀ c i x, ¬ (c = 0 ∧ i = 0 ∧ x = 0) → B' c i x = B c i x) ∧ ∀ y, B' 0 0 0 y = if F 0 0 1 ≤ y ∧ y < F 0 0 1 + (l - k) then zand (B 12 0 1 (k + (y - F 0 0 1))) 255 else B 0 0 0 y := by
  intro n
  induction n with
  | zero => intro k F B h0 h1 hT h3 h4 h5; omega
  | succ n ih =>
    intro k F B h0 h1 hT h3 h4 h5
    unfold f_S_end_29
    rw [if_pos (show r32 k from ⟨(by first | decide | omega), (by first | decide | omega)⟩), if_pos (show r32 l from ⟨(by first | decide | omega), (by first | decide | omega)⟩), hT]
    by_cases h : l ≤ k
    · rw [if_pos h, if_pos ⟨by decide, hK12⟩, if_pos ⟨by decide, hK0⟩]
      refine ⟨F, B, ?_, (by first | decide | omega), fun _ _ _ _ => rfl, fun _ _ _ _ => rfl, fun y => ?_⟩
      · rw [show F 0 0 1 + (l - k) = F 0 0 1 by omega]
      · rw [if_neg (by first | decide | omega)]
    · rw [if_neg h, if_pos ⟨by decide, hK12⟩, if_pos ⟨h0, (by first | decide | omega)⟩, if_pos ⟨by decide, hK0⟩, C_put hK0 h3 (by first | decide | omega)]
      have e1 : zup3 F 0 0 1 (F 0 0 1 + 1) 0 0 1 = F 0 0 1 + 1 := by simp [zup3]
      have e2 : zup3 F 0 0 1 (F 0 0 1 + 1) 12 0 0 = F 12 0 0 := by simp [zup3]
      obtain ⟨F', B', a1, a2, a3, a4, a5⟩ := ih (k := k + 1) (F := zup3 F 0 0 1 (F 0 0 1 + 1)) (B := zup4 B 0 0 0 (F 0 0 1) (zand (B 12 0 1 k) 255)) (by first | decide | omega) (by first | decide | omega) (by rw [e2, hT]) (by rw [e1]; omega) (by rw [e1]; omega) (by first | decide | omega)
      rw [e1] at a1 a2 a5
      refine ⟨F', B', ?_, by rw [a2]; omega, fun c i x hq => ?_, fun c i x hq => ?_, fun y => ?_⟩
      · show f_S_end_29 K n (k + 1) 0 l (zup3 F 0 0 1 (F 0 0 1 + 1)) (zup4 B 0 0 0 (F 0 0 1) (zand (B 12 0 1 k) 255)) = _
        rw [a1]
        congr 2
        omega
      · rw [a3 c i x hq]
        simp [zup3, hq]
      · rw [a4 c i x hq, zup4_ne hq]
      · rw [a5 y, zup4_self, zup4_ne (by decide)]
        unfold zup
        by_cases hy : y = F 0 0 1
        · subst hy
          rw [if_neg (by first | decide | omega), if_pos rfl, if_pos ⟨(by first | decide | omega), (by first | decide | omega)⟩]
          congr 2
          omega
        · by_cases hz : F 0 0 1 + 1 ≤ y ∧ y < F 0 0 1 + 1 + (l - (k + 1))
          · rw [if_pos hz, if_pos ⟨(by first | decide | omega), (by first | decide | omega)⟩]
            congr 2
            omega
          · rw [if_neg hz, if_neg hy, if_neg (by first | decide | omega)]
theorem C_end {K : zK} {l : Int} {F : zF} {B : zB} (hK : 22 ≤ K.1) (hK0 : 0 < K.2 0) (hK12 : 0 < K.2 12) (hl : r32 l) (hT : F 12 0 0 = 0) (h0 : 0 ≤ F 0 0 1) (h1 : F 0 0 1 ≤ 3000) :
    ((l < 0 ∨ 20 < l ∨ 3000 < F 0 0 1 + l) → f_S_end K 0 l F B = some (-1, F, B)) ∧
    (0 ≤ l → l ≤ 20 → F 0 0 1 + l ≤ 3000 → ∃ F' B', f_S_end K 0 l F B = some (F 0 0 1 + l, F', B') ∧ F' 0 0 1 = F 0 0 1 + l ∧ (∀ c i x, ¬ (c = 0 ∧ i = 0 ∧ x = 1) → F' c i x = F c i x) ∧ (∀ c i x, ¬ (c = 0 ∧ i = 0 ∧ x = 0) → B' c i x = B c i x) ∧ ∀ y, B' 0 0 0 y = if F 0 0 1 ≤ y ∧ y < F 0 0 1 + l then zand (B 12 0 1 (y - F 0 0 1)) 255 else B 0 0 0 y) := by
  constructor
  · intro h
    unfold f_S_end f_S_end_25
    rw [if_pos hl]
    by_cases a : l < 0
    · rw [if_pos a]
    · rw [if_neg a]
      by_cases b : 20 < l
      · rw [if_pos b]
      · rw [if_neg b, if_pos ⟨by decide, hK12⟩, hT, if_pos ⟨by decide, hK0⟩, if_pos (show r32 (F 0 0 1 + l) from ⟨(by first | decide | omega), (by first | decide | omega)⟩), if_neg (by first | decide | omega)]
  · intro a b d
    unfold f_S_end
    rw [if_pos hl, if_neg (by first | decide | omega), if_neg (by first | decide | omega), if_pos ⟨by decide, hK12⟩, hT, if_pos ⟨by decide, hK0⟩, if_pos (show r32 (F 0 0 1 + l) from ⟨(by first | decide | omega), (by first | decide | omega)⟩), if_pos d]
    obtain ⟨F', B', a1, a2, a3, a4, a5⟩ := C_end_loop (K := K) (l := l) hK0 hK12 b (n := K.1) (k := 0) (F := F) (B := B) (by first | decide | omega) a hT h0 (by first | decide | omega) (by first | decide | omega)
    refine ⟨F', B', ?_, by rw [a2]; omega, a3, a4, fun y => ?_⟩
    · rw [a1]
      congr 2
      omega
    · rw [a5 y, show F 0 0 1 + (l - 0) = F 0 0 1 + l by omega, show (0 : Int) + (y - F 0 0 1) = y - F 0 0 1 by omega]
theorem L_out {K : Nat} {l : Int} {F : zF} {B : zB} (hl : r32 l) (h0 : 0 ≤ F 14 0 71) (h1 : F 14 0 71 ≤ 40000) : f_M_out K l F B = some (if 0 ≤ l ∧ l < F 14 0 71 then zand (B 14 0 70 l) 255 else -1, F, B) := by
  unfold f_M_out f_M_out_25 f_M_out_26
  rw [if_pos hl]
  by_cases a : l < 0
  · rw [if_pos a, if_neg (by first | decide | omega)]
  · rw [if_neg a, if_pos (show r32 (F 14 0 71) from ⟨(by first | decide | omega), (by first | decide | omega)⟩)]
    by_cases b : F 14 0 71 ≤ l
    · rw [if_pos b, if_neg (by first | decide | omega)]
    · rw [if_neg b, if_pos ⟨(by first | decide | omega), (by first | decide | omega)⟩, if_pos ⟨(by first | decide | omega), (by first | decide | omega)⟩]
theorem C_out {K : zK} {l : Int} {F : zF} {B : zB} (hK0 : 1 < K.2 0) (hK12 : 0 < K.2 12) (hl : r32 l) (hT : F 12 0 2 = 1) (h0 : 0 ≤ F 0 1 1) (h1 : F 0 1 1 ≤ 20480) : f_S_out K 0 l F B = some (if 0 ≤ l ∧ l < F 0 1 1 then B 0 1 0 l else -1, F, B) := by
  have e : (lnC 0 1 0 : Int) = 20480 := rfl
  have h : f_ByteRow_at K 1 l F B = some (if 0 ≤ l ∧ l < F 0 1 1 then B 0 1 0 l else -1, F, B) := by
    unfold f_ByteRow_at f_ByteRow_at_12 f_ByteRow_at_22
    rw [if_pos hl]
    by_cases a : l < 0
    · rw [if_pos a, if_neg (by first | decide | omega)]
    · rw [if_neg a, if_pos ⟨by decide, hK0⟩, if_pos (show r32 (F 0 1 1) from ⟨(by first | decide | omega), (by first | decide | omega)⟩), e]
      by_cases b : l < F 0 1 1
      · rw [if_pos b, if_pos ⟨(by first | decide | omega), (by first | decide | omega)⟩, if_pos ⟨(by first | decide | omega), (by first | decide | omega)⟩]
      · rw [if_neg b, if_neg (by first | decide | omega)]
  unfold f_S_out
  rw [if_pos ⟨by decide, hK12⟩, hT, if_pos ⟨by decide, hK0⟩, h]
  rfl
end
section
/-! ===== bytes of a number ===== -/
theorem nat_and255 (n : Nat) : n &&& 255 = n % 256 := Nat.and_two_pow_sub_one_eq_mod n 8
theorem zand255 (x : Int) : zand x 255 = x % 256 := by
  have h : (iI x &&& iI 255).toBitVec = BitVec.ofInt 32 x &&& 255#32 := rfl
  have hn : (BitVec.ofInt 32 x &&& 255#32).toNat = (x % 256).toNat := by
    rw [BitVec.toNat_and, BitVec.toNat_ofInt]
    show (x % (2 ^ 32 : Nat)).toNat &&& 255 = _
    rw [nat_and255]
    omega
  show (iI x &&& iI 255).toBitVec.toInt = x % 256
  rw [h, BitVec.toInt_eq_toNat_of_lt (by rw [hn]; omega), hn]
  omega
theorem zi2b_e (x : Int) : zi2b x = x.bmod 256 := by
  unfold zi2b
  rw [Int8.toInt_toInt32, Int32.toInt_toInt8]
  unfold iI
  rw [Int32.toInt_ofInt]
  exact Int.bmod_bmod_of_dvd (by decide)
theorem zi2b_i (x : Int) : zi2b (zi2b x) = zi2b x := by
  rw [zi2b_e, zi2b_e, Int.bmod_bmod]
theorem bmod256 (x : Int) : x.bmod 256 % 256 = x % 256 := Int.bmod_emod (x := x) (m := 256)
theorem bmod32 (x : Int) : x.bmod 4294967296 % 256 = x % 256 := by
  have h : x.bmod 4294967296 % 4294967296 = x % 4294967296 := Int.bmod_emod (x := x) (m := 4294967296)
  omega
theorem ushr_mod (a : Int) (k : Nat) : (BitVec.ofInt 32 a >>> k).toInt % 256 = (((a % 4294967296).toNat / 2 ^ k : Nat) : Int) % 256 := by
  rw [BitVec.toInt_eq_toNat_bmod, BitVec.toNat_ushiftRight, Nat.shiftRight_eq_div_pow, BitVec.toNat_ofInt]
  exact bmod32 _
theorem zushr_byte {a s : Int} (hs : s = 0 ∨ s = 8 ∨ s = 16 ∨ s = 24) : zand (zushr a s) 255 = (a / 2 ^ s.toNat) % 256 := by
  rw [zand255]
  rcases hs with rfl | rfl | rfl | rfl
  · refine (ushr_mod a 0).trans ?_
    show (((a % 4294967296).toNat / 1 : Nat) : Int) % 256 = a / 1 % 256
    omega
  · refine (ushr_mod a 8).trans ?_
    show (((a % 4294967296).toNat / 256 : Nat) : Int) % 256 = a / 256 % 256
    omega
  · refine (ushr_mod a 16).trans ?_
    show (((a % 4294967296).toNat / 65536 : Nat) : Int) % 256 = a / 65536 % 256
    omega
  · refine (ushr_mod a 24).trans ?_
    show (((a % 4294967296).toNat / 16777216 : Nat) : Int) % 256 = a / 16777216 % 256
    omega
theorem zshr_byte {a s : Int} (ha : r32 a) (hs : s = 0 ∨ s = 8 ∨ s = 16 ∨ s = 24) : zshr a s = a / 2 ^ s.toNat := by
  have key : ∀ k : Nat, ((BitVec.ofInt 32 a).sshiftRight k).toInt = a / 2 ^ k := by
    intro k
    rw [BitVec.toInt_sshiftRight, Int.shiftRight_eq_div_pow, BitVec.toInt_ofInt, Int.bmod_eq_of_le (by first | decide | omega) (by first | decide | omega)]
    rfl
  rcases hs with rfl | rfl | rfl | rfl
  · exact key 0
  · exact key 8
  · exact key 16
  · exact key 24
end
