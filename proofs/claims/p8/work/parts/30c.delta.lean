section
/-! ===== deltas and strokes as they are told ===== -/
theorem ush_k {a : Int} (h0 : 0 ≤ a) (h1 : a < 2147483648) (k : Nat) : (BitVec.ofInt 32 a >>> k).toInt = a / 2 ^ k := by
  obtain ⟨n, rfl⟩ := Int.eq_ofNat_of_zero_le h0
  have k1 : (BitVec.ofInt 32 (n : Int)).toNat = n := by
    rw [BitVec.toNat_ofInt]
    show ((n : Int) % 4294967296).toNat = n
    omega
  have e : (BitVec.ofInt 32 (n : Int) >>> k).toNat = n / 2 ^ k := by
    rw [BitVec.toNat_ushiftRight, k1, Nat.shiftRight_eq_div_pow]
  have l : n / 2 ^ k ≤ n := Nat.div_le_self _ _
  rw [BitVec.toInt_eq_toNat_of_lt (by rw [e]; omega), e]
  rw [Int.natCast_ediv, Int.natCast_pow]
  rfl
theorem ssh_k {a : Int} (ha : r32 a) (k : Nat) : ((BitVec.ofInt 32 a).sshiftRight k).toInt = a / 2 ^ k := by
  rw [BitVec.toInt_sshiftRight, Int.shiftRight_eq_div_pow, BitVec.toInt_ofInt, Int.bmod_eq_of_le (by have := ha.1; omega) (by have := ha.2; omega)]
  rfl
theorem dl_u {a : Int} (h0 : 0 ≤ a) (h1 : a < 2147483648) : zushr a 21 = a / 2097152 ∧ zushr a 14 = a / 16384 ∧ zushr a 7 = a / 128 := ⟨ush_k h0 h1 21, ush_k h0 h1 14, ush_k h0 h1 7⟩
theorem dl_s {a : Int} (ha : r32 a) : zshr a 28 = a / 268435456 ∧ zshr a 21 = a / 2097152 ∧ zshr a 14 = a / 16384 ∧ zshr a 7 = a / 128 := ⟨ssh_k ha 28, ssh_k ha 21, ssh_k ha 14, ssh_k ha 7⟩
theorem zor_c (a b : Int) : zor a b = zor b a := by
  unfold zor
  rw [Int32.or_comm]
theorem C_dS {K : zK} {d l : Int} {F : zF} {B : zB} (m : Nat) (hl : 0 < l ∧ l ≤ 3) (hz : zushr d (7 * l) = 0) : f_ByteRow_putDelta_2 K (m + 1) l 1 d F B = f_ByteRow_putDelta_2 K m (l - 1) 1 d F B := by
  rw [f_ByteRow_putDelta_2]
  unfold f_ByteRow_putDelta_32
  rw [if_pos (by unfold r32; omega), if_neg (by first | decide | omega), hz, if_pos (by decide), if_pos rfl]
theorem C_dP {K : zK} {d l y : Int} {F : zF} {B : zB} (h0 : 2 ≤ K.2 0) (m : Nat) (hl : 0 < l ∧ l ≤ 3) (hz : zushr d (7 * l) = y) (hy : 0 < y ∧ y < 2147483648) : f_ByteRow_putDelta_2 K (m + 1) l 1 d F B = zbind (f_ByteRow_put K 1 (zor (zand y 127) 128) F B) (fun _ F B => f_ByteRow_putDelta_2 K m (l - 1) 1 d F B) := by
  rw [f_ByteRow_putDelta_2]
  unfold f_ByteRow_putDelta_32
  rw [if_pos (by unfold r32; omega), if_neg (by first | decide | omega), hz, if_pos (by unfold r32; omega), if_neg (by first | decide | omega), if_pos (by first | decide | omega)]
theorem C_dE {K : zK} {d : Int} {F : zF} {B : zB} (h0 : 2 ≤ K.2 0) (m : Nat) : f_ByteRow_putDelta_2 K (m + 1) 0 1 d F B = zbind (f_ByteRow_put K 1 (zand d 127) F B) (fun _ F B => some (0, F, B)) := by
  rw [f_ByteRow_putDelta_2, if_pos (by decide), if_pos (by decide), if_pos (by first | decide | omega)]
theorem L_dS {Km : Nat} {d l y : Int} {F : zF} {B : zB} (m : Nat) (hl : 0 < l ∧ l ≤ 28) (hz : zshr d l = y) (hy : y = 0) : f_M_delta_3 Km (m + 1) l d F B = f_M_delta_3 Km m (l - 7) d F B := by
  rw [f_M_delta_3]
  unfold f_M_delta_27
  rw [if_pos (by unfold r32; omega), if_neg (by first | decide | omega), hz, hy, if_pos (by decide), if_pos (by decide)]
theorem L_dP {Km : Nat} {d l y : Int} {F : zF} {B : zB} (m : Nat) (hl : 0 < l ∧ l ≤ 28) (hz : zshr d l = y) (hy : 0 < y ∧ y < 2147483648) : f_M_delta_3 Km (m + 1) l d F B = zbind (f_M_put_0 Km (zor 128 (zand y 127)) F B) (fun _ F B => f_M_delta_3 Km m (l - 7) d F B) := by
  rw [f_M_delta_3]
  unfold f_M_delta_27
  rw [if_pos (by unfold r32; omega), if_neg (by first | decide | omega), hz, if_pos (by unfold r32; omega), if_neg (by first | decide | omega)]
theorem L_dE {Km : Nat} {d : Int} {F : zF} {B : zB} (m : Nat) : f_M_delta_3 Km (m + 1) 0 d F B = zbind (f_M_put_0 Km (zand d 127) F B) (fun _ F B => some (0, F, B)) := by
  rw [f_M_delta_3, if_pos (by decide), if_pos (by decide)]
theorem P_delta {K : zK} {Km : Nat} {q : zF × zB × zF × zB} {n d : Int} {F : zF} {B : zB} {Fm : zF} {Bm : zB} (h0 : 2 ≤ K.2 0) (hK : 10 ≤ K.1) (hKm : 10 ≤ Km) (hd : 0 ≤ d ∧ d ≤ 500000) (hn : n < 20470) (h : WB q n F B Fm Bm) : zP (f_ByteRow_putDelta K 1 d F B) (f_M_delta Km d Fm Bm) (fun _ F B _ Fm Bm => ∃ c, 1 ≤ c ∧ 16384 * c ≤ 32768 + d ∧ WB q (n + c) F B Fm Bm) := by
  obtain ⟨u1, u2, u3⟩ := dl_u hd.1 (by omega : d < 2147483648)
  obtain ⟨s0, s1, s2, s3⟩ := dl_s (a := d) (by unfold r32; omega)
  obtain ⟨a, e⟩ : ∃ a, K.1 = a + 1 + 1 + 1 + 1 := ⟨K.1 - 4, (by first | decide | omega)⟩
  have eC : f_ByteRow_putDelta K 1 d F B = f_ByteRow_putDelta_2 K (a + 1 + 1 + 1) 2 1 d F B := by
    unfold f_ByteRow_putDelta
    rw [e, C_dS _ (by first | decide | omega) (by show zushr d 21 = 0; omega)]
    rfl
  have eM : ∃ b, f_M_delta Km d Fm Bm = f_M_delta_3 Km (b + 1 + 1 + 1) 14 d Fm Bm := by
    have g : f_M_delta Km d Fm Bm = f_M_delta_3 Km Km 28 d Fm Bm := rfl
    have k : ∀ i, 10 ≤ i → ∃ b, f_M_delta_3 Km i 28 d Fm Bm = f_M_delta_3 Km (b + 1 + 1 + 1) 14 d Fm Bm := fun i hi => by
      obtain ⟨b, rfl⟩ : ∃ b, i = b + 1 + 1 + 1 + 1 + 1 := ⟨i - 5, (by first | decide | omega)⟩
      refine ⟨b, ?_⟩
      rw [L_dS _ (by first | decide | omega) s0 (by first | decide | omega), show (28 : Int) - 7 = 21 from rfl, L_dS _ (by first | decide | omega) s1 (by first | decide | omega)]
      rfl
    rw [g]
    exact k Km hKm
  obtain ⟨b, eM⟩ := eM
  rw [eC, eM]
  by_cases z : d < 16384
  · rw [C_dS _ (by first | decide | omega) (by show zushr d 14 = 0; omega), L_dS _ (by first | decide | omega) s2 (by first | decide | omega), show (2 : Int) - 1 = 1 from rfl, show (14 : Int) - 7 = 7 from rfl]
    by_cases y : d < 128
    · rw [C_dS _ (by first | decide | omega) (by show zushr d 7 = 0; omega), L_dS _ (by first | decide | omega) s3 (by first | decide | omega), show (1 : Int) - 1 = 0 from rfl, show (7 : Int) - 7 = 0 from rfl, C_dE h0, L_dE]
      refine P_put h0 h (by first | decide | omega) rfl (fun F1 B1 G1 D1 w1 => P_some ⟨1, (by first | decide | omega), (by first | decide | omega), w1⟩)
    · rw [C_dP h0 _ (by first | decide | omega) (show zushr d (7 * 1) = d / 128 from u3) (by first | decide | omega), L_dP _ (by first | decide | omega) s3 (by first | decide | omega)]
      refine P_put h0 h (by first | decide | omega) (by rw [zor_c]) (fun F1 B1 G1 D1 w1 => ?_)
      rw [show (1 : Int) - 1 = 0 from rfl, show (7 : Int) - 7 = 0 from rfl, C_dE h0, L_dE]
      refine P_put h0 w1 (by first | decide | omega) rfl (fun F2 B2 G2 D2 w2 => P_some ⟨2, (by first | decide | omega), (by first | decide | omega), ?_⟩)
      rw [show n + 2 = n + 1 + 1 by omega]; exact w2
  · rw [C_dP h0 _ (by first | decide | omega) (show zushr d (7 * 2) = d / 16384 from u2) (by first | decide | omega), L_dP _ (by first | decide | omega) s2 (by first | decide | omega)]
    refine P_put h0 h (by first | decide | omega) (by rw [zor_c]) (fun F1 B1 G1 D1 w1 => ?_)
    rw [show (2 : Int) - 1 = 1 from rfl, show (14 : Int) - 7 = 7 from rfl, C_dP h0 _ (by first | decide | omega) (show zushr d (7 * 1) = d / 128 from u3) (by first | decide | omega), L_dP _ (by first | decide | omega) s3 (by first | decide | omega)]
    refine P_put h0 w1 (by first | decide | omega) (by rw [zor_c]) (fun F2 B2 G2 D2 w2 => ?_)
    rw [show (1 : Int) - 1 = 0 from rfl, show (7 : Int) - 7 = 0 from rfl, C_dE h0, L_dE]
    refine P_put h0 w2 (by first | decide | omega) rfl (fun F3 B3 G3 D3 w3 => P_some ⟨3, (by first | decide | omega), (by first | decide | omega), ?_⟩)
    rw [show n + 3 = n + 1 + 1 + 1 by omega]; exact w3
/-- what a key tells -/
theorem lsh_k {a : Int} (h0 : 0 ≤ a) (h1 : a < 9223372036854775808) (k : Nat) : (BitVec.ofInt 64 a >>> k).toInt = a / 2 ^ k := by
  obtain ⟨n, rfl⟩ := Int.eq_ofNat_of_zero_le h0
  have k1 : (BitVec.ofInt 64 (n : Int)).toNat = n := by
    rw [BitVec.toNat_ofInt]
    show ((n : Int) % 18446744073709551616).toNat = n
    omega
  have e : (BitVec.ofInt 64 (n : Int) >>> k).toNat = n / 2 ^ k := by
    rw [BitVec.toNat_ushiftRight, k1, Nat.shiftRight_eq_div_pow]
  have l : n / 2 ^ k ≤ n := Nat.div_le_self _ _
  rw [BitVec.toInt_eq_toNat_of_lt (by rw [e]; omega), e]
  rw [Int.natCast_ediv, Int.natCast_pow]
  rfl
theorem land_k {a : Int} (h0 : 0 ≤ a) (h1 : a < 9223372036854775808) (k : Nat) (hk : k < 40) : (BitVec.ofInt 64 a &&& BitVec.ofNat 64 (2 ^ k - 1)).toInt = a % 2 ^ k := by
  obtain ⟨n, rfl⟩ := Int.eq_ofNat_of_zero_le h0
  have k1 : (BitVec.ofInt 64 (n : Int)).toNat = n := by
    rw [BitVec.toNat_ofInt]
    show ((n : Int) % 18446744073709551616).toNat = n
    omega
  have p : 2 ^ k ≤ 2 ^ 40 := Nat.pow_le_pow_right (by decide) (by first | decide | omega)
  have p1 : 0 < 2 ^ k := Nat.pos_of_ne_zero (by simp)
  have e : (BitVec.ofInt 64 (n : Int) &&& BitVec.ofNat 64 (2 ^ k - 1)).toNat = n % 2 ^ k := by
    rw [BitVec.toNat_and, k1, BitVec.toNat_ofNat, Nat.mod_eq_of_lt (by first | decide | omega), Nat.and_two_pow_sub_one_eq_mod]
  have l : n % 2 ^ k < 2 ^ k := Nat.mod_lt _ p1
  rw [BitVec.toInt_eq_toNat_of_lt (by rw [e]; omega), e]
  rw [Int.natCast_emod, Int.natCast_pow]
  rfl
theorem sk_b {t on v to ev j : Int} (ht : 0 ≤ t ∧ t ≤ 500000) (ho : 0 ≤ on ∧ on ≤ 1) (hv : 0 ≤ v ∧ v < 4) (h2 : 0 ≤ to ∧ to ≤ 127) (he : 0 ≤ ev ∧ ev < 200) (hj : 0 ≤ j ∧ j < 2000) : (0 ≤ skV t on v to ev j ∧ skV t on v to ev j < 9223372036854775808) ∧ skV t on v to ev j / 536870912 = t ∧ skV t on v to ev j / 268435456 % 2 = on ∧ skV t on v to ev j / 67108864 % 4 = v ∧ skV t on v to ev j / 524288 % 128 = to ∧ skV t on v to ev j % 2048 = j := by
  unfold skV
  omega
theorem sk_z {a : Int} (h0 : 0 ≤ a) (h1 : a < 9223372036854775808) : zlushr a 29 = a / 536870912 ∧ zland (zlushr a 26) 3 = a / 67108864 % 4 ∧ zland (zlushr a 19) 127 = a / 524288 % 128 ∧ zland (zlushr a 28) 1 = a / 268435456 % 2 ∧ zland a 2047 = a % 2048 := by
  have e1 : zlushr a 26 = a / 67108864 := lsh_k h0 h1 26
  have e2 : zlushr a 19 = a / 524288 := lsh_k h0 h1 19
  have e3 : zlushr a 28 = a / 268435456 := lsh_k h0 h1 28
  rw [e1, e2, e3]
  exact ⟨lsh_k h0 h1 29, land_k (by first | decide | omega) (by first | decide | omega) 2 (by first | decide | omega), land_k (by first | decide | omega) (by first | decide | omega) 7 (by first | decide | omega), land_k (by first | decide | omega) (by first | decide | omega) 1 (by first | decide | omega), land_k h0 h1 11 (by first | decide | omega)⟩
end
