/-! ===== bytes of a number ===== -/
theorem nat_and255 (n : Nat) : n &&& 255 = n % 256 := Nat.and_two_pow_sub_one_eq_mod n 8
theorem zand255 (x : Int) : zand x 255 = x % 256 := by
  have h : (iI x &&& iI 255).toBitVec = BitVec.ofInt 32 x &&& 255#32 := rfl
  have hn : (BitVec.ofInt 32 x &&& 255#32).toNat = (x % 256).toNat := by
    rw [BitVec.toNat_and, BitVec.toNat_ofInt]
    show (x % (2 ^ 32 : Nat)).toNat &&& 255 = _
    rw [nat_and255]
    omega
  show (iI x &&& iI 255).toBitVec.toInt = x % 256
  rw [h, BitVec.toInt_eq_toNat_of_lt (by rw [hn]; omega), hn]
  omega
theorem zi2b_e (x : Int) : zi2b x = x.bmod 256 := by
  unfold zi2b
  rw [Int8.toInt_toInt32, Int32.toInt_toInt8]
  unfold iI
  rw [Int32.toInt_ofInt]
  exact Int.bmod_bmod_of_dvd (by decide)
theorem zi2b_i (x : Int) : zi2b (zi2b x) = zi2b x := by
  rw [zi2b_e, zi2b_e, Int.bmod_bmod]
theorem bmod256 (x : Int) : x.bmod 256 % 256 = x % 256 := Int.bmod_emod (x := x) (m := 256)
theorem bmod32 (x : Int) : x.bmod 4294967296 % 256 = x % 256 := by
  have h : x.bmod 4294967296 % 4294967296 = x % 4294967296 := Int.bmod_emod (x := x) (m := 4294967296)
  omega
theorem ushr_mod (a : Int) (k : Nat) : (BitVec.ofInt 32 a >>> k).toInt % 256 = (((a % 4294967296).toNat / 2 ^ k : Nat) : Int) % 256 := by
  rw [BitVec.toInt_eq_toNat_bmod, BitVec.toNat_ushiftRight, Nat.shiftRight_eq_div_pow, BitVec.toNat_ofInt]
  exact bmod32 _
theorem zushr_byte {a s : Int} (hs : s = 0 ∨ s = 8 ∨ s = 16 ∨ s = 24) : zand (zushr a s) 255 = (a / 2 ^ s.toNat) % 256 := by
  rw [zand255]
  rcases hs with rfl | rfl | rfl | rfl
  · refine (ushr_mod a 0).trans ?_
    show (((a % 4294967296).toNat / 1 : Nat) : Int) % 256 = a / 1 % 256
    omega
  · refine (ushr_mod a 8).trans ?_
    show (((a % 4294967296).toNat / 256 : Nat) : Int) % 256 = a / 256 % 256
    omega
  · refine (ushr_mod a 16).trans ?_
    show (((a % 4294967296).toNat / 65536 : Nat) : Int) % 256 = a / 65536 % 256
    omega
  · refine (ushr_mod a 24).trans ?_
    show (((a % 4294967296).toNat / 16777216 : Nat) : Int) % 256 = a / 16777216 % 256
    omega
theorem zshr_byte {a s : Int} (ha : r32 a) (hs : s = 0 ∨ s = 8 ∨ s = 16 ∨ s = 24) : zshr a s = a / 2 ^ s.toNat := by
  have key : ∀ k : Nat, ((BitVec.ofInt 32 a).sshiftRight k).toInt = a / 2 ^ k := by
    intro k
    rw [BitVec.toInt_sshiftRight, Int.shiftRight_eq_div_pow, BitVec.toInt_ofInt, Int.bmod_eq_of_le (by omega) (by omega)]
    rfl
  rcases hs with rfl | rfl | rfl | rfl
  · exact key 0
  · exact key 8
  · exact key 16
  · exact key 24
