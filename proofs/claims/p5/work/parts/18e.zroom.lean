/-! ===== what has been made, by the numbers of objects ===== -/
noncomputable def cwN (N : Nat → Int) : Nat := 3 * (N 1).toNat + 12 * (N 2).toNat + 17 * (N 4).toNat + 14 * (N 5).toNat + 2 * (N 6).toNat + 10 * (N 8).toNat + 18 * (N 9).toNat
noncomputable def swN (N : Nat → Int) : Nat := 26 * (N 1).toNat + 10321 * (N 2).toNat + 10688 * (N 4).toNat + 23032 * (N 5).toNat + 18 * (N 6).toNat + 2436 * (N 8).toNat + 5246 * (N 9).toNat
noncomputable def cwC (K K' : zK) : Nat := cwN K'.2 - cwN K.2
noncomputable def swC (K K' : zK) : Nat := swN K'.2 - swN K.2
theorem cwN_le {K K' : zK} (h : zKle K K') : cwN K.2 ≤ cwN K'.2 := by
  have h1 := Int.toNat_le_toNat (h 1)
  have h2 := Int.toNat_le_toNat (h 2)
  have h4 := Int.toNat_le_toNat (h 4)
  have h5 := Int.toNat_le_toNat (h 5)
  have h6 := Int.toNat_le_toNat (h 6)
  have h8 := Int.toNat_le_toNat (h 8)
  have h9 := Int.toNat_le_toNat (h 9)
  unfold cwN
  exact (Nat.add_le_add (Nat.add_le_add (Nat.add_le_add (Nat.add_le_add (Nat.add_le_add (Nat.add_le_add (Nat.mul_le_mul_left 3 h1) (Nat.mul_le_mul_left 12 h2)) (Nat.mul_le_mul_left 17 h4)) (Nat.mul_le_mul_left 14 h5)) (Nat.mul_le_mul_left 2 h6)) (Nat.mul_le_mul_left 10 h8)) (Nat.mul_le_mul_left 18 h9))
theorem swN_le {K K' : zK} (h : zKle K K') : swN K.2 ≤ swN K'.2 := by
  have h1 := Int.toNat_le_toNat (h 1)
  have h2 := Int.toNat_le_toNat (h 2)
  have h4 := Int.toNat_le_toNat (h 4)
  have h5 := Int.toNat_le_toNat (h 5)
  have h6 := Int.toNat_le_toNat (h 6)
  have h8 := Int.toNat_le_toNat (h 8)
  have h9 := Int.toNat_le_toNat (h 9)
  unfold swN
  exact (Nat.add_le_add (Nat.add_le_add (Nat.add_le_add (Nat.add_le_add (Nat.add_le_add (Nat.add_le_add (Nat.mul_le_mul_left 26 h1) (Nat.mul_le_mul_left 10321 h2)) (Nat.mul_le_mul_left 10688 h4)) (Nat.mul_le_mul_left 23032 h5)) (Nat.mul_le_mul_left 18 h6)) (Nat.mul_le_mul_left 2436 h8)) (Nat.mul_le_mul_left 5246 h9))
theorem zroom {K0 K K' K9 : zK} {a b : Nat} (h0 : zKle K0 K) (hw : cwN K'.2 = cwN K.2 + a ∧ swN K'.2 = swN K.2 + b) (h1 : zKle K' K9) : cwC K0 K + a ≤ cwC K0 K9 ∧ swC K0 K + b ≤ swC K0 K9 ∧ cwC K0 K + a = cwC K0 K' ∧ swC K0 K + b = swC K0 K' := by
  have a0 := cwN_le h0
  have a1 := cwN_le h1
  have b0 := swN_le h0
  have b1 := swN_le h1
  unfold cwC swC
  omega
theorem zroomC {K0 K K' K9 : zK} (h0 : zKle K0 K) (h : zKle K K') (h1 : zKle K' K9) : cwC K0 K + cwC K K' ≤ cwC K0 K9 ∧ swC K0 K + swC K K' ≤ swC K0 K9 ∧ cwC K0 K + cwC K K' = cwC K0 K' ∧ swC K0 K + swC K K' = swC K0 K' := by
  have a0 := cwN_le h0
  have a1 := cwN_le h1
  have a2 := cwN_le h
  have b0 := swN_le h0
  have b1 := swN_le h1
  have b2 := swN_le h
  unfold cwC swC
  omega
theorem zroom0 {K0 K K9 : zK} (h : zKle K K9) : cwC K0 K ≤ cwC K0 K9 ∧ swC K0 K ≤ swC K0 K9 := ⟨Nat.sub_le_sub_right (cwN_le h) _, Nat.sub_le_sub_right (swN_le h) _⟩
theorem zBackM {D : va_G} {ca : Nat → ClassId} {ad' : Nat → Int → Nat → Nat} {ln : Nat → Int → Nat → Nat} {N' : Nat → Int} {L L' : List Nat} {aS vS : Nat → Nat} {F1 : zF} {B1 : zB} {A : Nat → Prop} {H H1 : Heap} {p : Program} {s : State} {m : MethodId} {args : Array Value} {meth : Method} {c : Code} {cc : ByteArray} {n : Nat} {ret : Option FieldType} {cl : String} {locs : List Loc} (X : zX D ca L aS vS A p s m args meth c cc n ret cl) (hS : va_S A s.heap H locs) {t : State} (ht : t.heap = H1) (hB : zPo D ca ad' ln N' L' F1 B1 (zA L H.size) t) : zH D ca ad' ln N' L' F1 B1 A H1 := by
  rw [← ht]
  exact hB.1.weaken (fun q h => zAin X hS q (hB.1.inA q h))
theorem zref_f {ad : Nat → Int → Nat → Nat} {t q : Nat} {r : Int} (h0 : 0 ≤ r) (h : ad t r 0 = q) : (Value.ref q) = va_rf (zrf ad t r) := by
  rw [zrf_pos h0, h]
  rfl
theorem zinN_at {N : Nat → Int} {c : Nat} : zinN N c c = N c + 1 := by
  unfold zinN
  rw [if_pos rfl]
theorem zinN_ne {N : Nat → Int} {c c' : Nat} (h : ¬ c' = c) : zinN N c c' = N c' := by
  unfold zinN
  rw [if_neg h]
