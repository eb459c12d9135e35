section
/-! ===== the staves of a read piece, reference: holds, accidentals, ledgers ===== -/
theorem s_sounding {K : Nat} {V w u : Int} {F : zF} {B : zB} (hR : RDW V w F B) (u0 : 0 ≤ u) (u1 : u < V) {i : Int} (i0 : 0 ≤ i) (i1 : i < B 13 w 13 u) : zS (f_M_sounding K w u i F B) (fun r F' B' => F' = F ∧ B' = B ∧ (r = -1 ∨ (1000 * u ≤ r ∧ r < 1000 * u + B 13 w 12 u ∧ 1 ≤ B 13 w 21 r))) := by
  have b0 := rd_0 hR
  have bv := rd_v hR u0 u1
  unfold f_M_sounding
  refine zS_g (by first | decide | omega) ?_ -- 1
  refine zS_g (by first | decide | omega) ?_ -- 2
  have a1 := rd_n (u := u) (y := ((800 * u) + i)) hR (by first | decide | omega) (by first | decide | omega) (by first | decide | omega) (by first | decide | omega)
  refine zS_g (by unfold r32; omega) ?_ -- 3
  refine zS_i (fun h2 => ?_) (fun h2 => ?_) -- 4: ((B 13 w 30 ((800 * u) + i)) < 0)
  · unfold f_M_sounding_32
    unfold f_M_sounding_43
    exact zS_s ⟨rfl, rfl, (by first | decide | omega)⟩
  · refine zS_g (by first | decide | omega) ?_ -- 8
    have a3 := rd_e (u := u) (x := ((1000 * u) + (B 13 w 30 ((800 * u) + i)))) hR (by first | decide | omega) (by first | decide | omega) (by first | decide | omega) (by first | decide | omega)
    refine zS_g (by unfold r32; omega) ?_ -- 9
    refine zS_i (fun h4 => ?_) (fun h4 => ?_) -- 10: ((B 13 w 21 ((1000 * u) + (B 13 w 30 ((800 * u) + i)))) = 0)
    · unfold f_M_sounding_32
      unfold f_M_sounding_43
      exact zS_s ⟨rfl, rfl, (by first | decide | omega)⟩
    · unfold f_M_sounding_43
      exact zS_s ⟨rfl, rfl, (by first | decide | omega)⟩
theorem s_height {K : Nat} {V w u : Int} {F : zF} {B : zB} (hR : RDW V w F B) (u0 : 0 ≤ u) (u1 : u < V) {s : Int} : zS (f_M_height K w u s F B) (fun r F' B' => F' = F ∧ B' = B ∧ (s - 30 ≤ r ∧ r ≤ s - 18)) := by
  have b0 := rd_0 hR
  have bv := rd_v hR u0 u1
  unfold f_M_height
  refine zS_g (by first | decide | omega) ?_ -- 1
  refine zS_g (by first | decide | omega) ?_ -- 2
  refine zS_g (by unfold r32; omega) ?_ -- 3
  refine zS_i (fun h1 => ?_) (fun h1 => ?_) -- 4: ((B 13 w 8 u) = 0)
  · unfold f_M_height_39
    exact zS_s ⟨rfl, rfl, (by first | decide | omega)⟩
  · refine zS_i (fun h2 => ?_) (fun h2 => ?_) -- 7: ((B 13 w 8 u) = 1)
    · unfold f_M_height_39
      exact zS_s ⟨rfl, rfl, (by first | decide | omega)⟩
    · refine zS_i (fun h3 => ?_) (fun h3 => ?_) -- 10: ((B 13 w 8 u) = 2)
      · unfold f_M_height_39
        exact zS_s ⟨rfl, rfl, (by first | decide | omega)⟩
      · unfold f_M_height_39
        exact zS_s ⟨rfl, rfl, (by first | decide | omega)⟩
theorem s_lowest {K : Nat} {V w u : Int} {F : zF} {B : zB} (hR : RDW V w F B) (u0 : 0 ≤ u) (u1 : u < V) {x : Int} (x0 : 1000 * u ≤ x) (x1 : x < 1000 * u + B 13 w 12 u) (x2 : 1 ≤ B 13 w 21 x) : zS (f_M_lowest K w u x F B) (fun r F' B' => F' = F ∧ B' = B ∧ (-30 ≤ r ∧ r ≤ 44)) := by
  have b0 := rd_0 hR
  have bv := rd_v hR u0 u1
  unfold f_M_lowest
  refine zS_g (by first | decide | omega) ?_ -- 1
  refine zS_g (by first | decide | omega) ?_ -- 2
  have a1 := rd_p (u := u) (x := x) (k := (6 * x) - 6 * x) hR (by first | decide | omega) (by first | decide | omega) (by first | decide | omega) (by first | decide | omega) (by first | decide | omega) (by first | decide | omega)
  have a1e : 6 * x + ((6 * x) - 6 * x) = (6 * x) := by omega
  rw [a1e] at a1
  refine zS_b (s_height (K := K) (s := (B 13 w 28 (6 * x))) hR u0 u1) ?_
  rintro r3 F B ⟨rfl, rfl, q2⟩
  exact zS_s ⟨rfl, rfl, (by first | decide | omega)⟩
theorem s_highest {K : Nat} {V w u : Int} {F : zF} {B : zB} (hR : RDW V w F B) (u0 : 0 ≤ u) (u1 : u < V) {x : Int} (x0 : 1000 * u ≤ x) (x1 : x < 1000 * u + B 13 w 12 u) (x2 : 1 ≤ B 13 w 21 x) : zS (f_M_highest K w u x F B) (fun r F' B' => F' = F ∧ B' = B ∧ (-30 ≤ r ∧ r ≤ 44)) := by
  have b0 := rd_0 hR
  have bv := rd_v hR u0 u1
  unfold f_M_highest
  refine zS_g (by first | decide | omega) ?_ -- 1
  refine zS_g (by first | decide | omega) ?_ -- 2
  have a1 := rd_e (u := u) (x := x) hR (by first | decide | omega) (by first | decide | omega) (by first | decide | omega) (by first | decide | omega)
  refine zS_g (by first | decide | omega) ?_ -- 3
  have a2 := rd_p (u := u) (x := x) (k := (((6 * x) + (B 13 w 21 x)) - 1) - 6 * x) hR (by first | decide | omega) (by first | decide | omega) (by first | decide | omega) (by first | decide | omega) (by first | decide | omega) (by first | decide | omega)
  have a2e : 6 * x + ((((6 * x) + (B 13 w 21 x)) - 1) - 6 * x) = (((6 * x) + (B 13 w 21 x)) - 1) := by omega
  rw [a2e] at a2
  refine zS_b (s_height (K := K) (s := (B 13 w 28 (((6 * x) + (B 13 w 21 x)) - 1))) hR u0 u1) ?_
  rintro r4 F B ⟨rfl, rfl, q3⟩
  exact zS_s ⟨rfl, rfl, (by first | decide | omega)⟩
theorem s_has3 {K : Nat} {V w u : Int} {F : zF} {B : zB} (hR : RDW V w F B) (u0 : 0 ≤ u) (u1 : u < V) {x : Int} (x0 : 1000 * u ≤ x) (x1 : x < 1000 * u + B 13 w 12 u) {a b : Int} (ra : r32 a) (rb : r32 b) : ∀ (n : Nat) (k : Int), 0 ≤ k → k ≤ B 13 w 21 x → B 13 w 21 x - k < n → zS (f_M_has_3 K n k w x a b F B) (fun r F' B' => F' = F ∧ B' = B ∧ -1 ≤ r ∧ r < B 13 w 21 x) := by
  intro n
  induction n with
  | zero => intro k k0 k1 hk; exfalso; omega
  | succ n ih =>
    intro k k0 k1 hk
    have b0 := rd_0 hR
    have bv := rd_v hR u0 u1
    have be := rd_e hR u0 u1 x0 x1
    rw [f_M_has_3]
    refine zS_g (by first | decide | omega) ?_ -- 1
    refine zS_g (by first | decide | omega) ?_ -- 2
    refine zS_g (by unfold r32; omega) ?_ -- 3
    refine zS_g (by unfold r32; omega) ?_ -- 4
    refine zS_i (fun h1 => ?_) (fun h1 => ?_) -- 5: ((B 13 w 21 x) ≤ k)
    · exact zS_s ⟨rfl, rfl, (by first | decide | omega), (by first | decide | omega)⟩
    · refine zS_g (by first | decide | omega) ?_ -- 7
      have a2 := rd_p (u := u) (x := x) (k := ((6 * x) + k) - 6 * x) hR (by first | decide | omega) (by first | decide | omega) (by first | decide | omega) (by first | decide | omega) (by first | decide | omega) (by first | decide | omega)
      have a2e : 6 * x + (((6 * x) + k) - 6 * x) = ((6 * x) + k) := by omega
      rw [a2e] at a2
      refine zS_g (by unfold r32; omega) ?_ -- 8
      refine zS_g (by unfold r32; omega) ?_ -- 9
      refine zS_i (fun h3 => ?_) (fun h3 => ?_) -- 10: ((B 13 w 28 ((6 * x) + k)) = a)
      · refine zS_g (by unfold r32; omega) ?_ -- 11
        refine zS_g (by unfold r32; omega) ?_ -- 12
        refine zS_i (fun h5 => ?_) (fun h5 => ?_) -- 13: ((B 13 w 29 ((6 * x) + k)) = b)
        · exact zS_s ⟨rfl, rfl, (by first | decide | omega), (by first | decide | omega)⟩
        · unfold f_M_has_49
          exact ih (k + 1) (by first | decide | omega) (by first | decide | omega) (by first | decide | omega) -- 16 f_M_has_3
      · unfold f_M_has_49
        exact ih (k + 1) (by first | decide | omega) (by first | decide | omega) (by first | decide | omega) -- 18 f_M_has_3
theorem s_has {K : Nat} {V w u : Int} {F : zF} {B : zB} (hR : RDW V w F B) (u0 : 0 ≤ u) (u1 : u < V) {x : Int} (x0 : 1000 * u ≤ x) (x1 : x < 1000 * u + B 13 w 12 u) {a b : Int} (ra : r32 a) (rb : r32 b) (hK : 7 ≤ K) : zS (f_M_has K w x a b F B) (fun r F' B' => F' = F ∧ B' = B ∧ -1 ≤ r ∧ r < B 13 w 21 x) := by
  have be := rd_e hR u0 u1 x0 x1
  exact s_has3 hR u0 u1 x0 x1 ra rb K 0 (by first | decide | omega) (by first | decide | omega) (by first | decide | omega)
theorem s_comesOn {K : Nat} {V w u : Int} {F : zF} {B : zB} (hR : RDW V w F B) (u0 : 0 ≤ u) (u1 : u < V) {i a b : Int} (i0 : 0 ≤ i) (i1 : i < B 13 w 13 u) (ra : r32 a) (rb : r32 b) (hK : 7 ≤ K) : zS (f_M_comesOn K w u i a b F B) (fun r F' B' => F' = F ∧ B' = B ∧ (r = 0 ∨ r = 1)) := by
  have b0 := rd_0 hR
  have bv := rd_v hR u0 u1
  unfold f_M_comesOn
  refine zS_g (by unfold r32; omega) ?_ -- 1
  refine zS_i (fun h1 => ?_) (fun h1 => ?_) -- 2: (i ≤ 0)
  · unfold f_M_comesOn_16
    refine zS_g (by unfold r32; omega) ?_ -- 4
    refine zS_i (fun h2 => ?_) (fun h2 => ?_) -- 5: (0 ≤ (-1))
    · refine zS_b (s_has (K := K) hR u0 u1 (x := (-1)) (a := a) (b := b) (by first | decide | omega) (by first | decide | omega) (by unfold r32; omega) (by unfold r32; omega) (by first | decide | omega)) ?_
      rintro r4 F B ⟨rfl, rfl, q3⟩
      have lkr4 := rd_e (x := (-1)) hR u0 u1 (by first | decide | omega) (by first | decide | omega)
      unfold f_M_comesOn_37
      refine zS_g (by unfold r32; omega) ?_ -- 8
      refine zS_i (fun h6 => ?_) (fun h6 => ?_) -- 9: (r4 < 0)
      · unfold f_M_comesOn_71
        unfold f_M_comesOn_72
        refine zS_g (by first | decide | omega) ?_ -- 12
        exact zS_s ⟨rfl, rfl, (by first | decide | omega)⟩
      · refine zS_g (by first | decide | omega) ?_ -- 14
        refine zS_g (by first | decide | omega) ?_ -- 15
        have z7 := zshr_R (B 13 w 36 (((800 * u) + i) - 1)) r4
        have z8 := zand_R (zshr (B 13 w 36 (((800 * u) + i) - 1)) r4) 1
        refine zS_g (by unfold r32; omega) ?_ -- 16
        refine zS_i (fun h9 => ?_) (fun h9 => ?_) -- 17: ((zand (zshr (B 13 w 36 (((800 * u) + i) - 1)) r4) 1) = 1)
        · unfold f_M_comesOn_72
          refine zS_g (by first | decide | omega) ?_ -- 19
          exact zS_s ⟨rfl, rfl, (by first | decide | omega)⟩
        · unfold f_M_comesOn_71
          unfold f_M_comesOn_72
          refine zS_g (by first | decide | omega) ?_ -- 23
          exact zS_s ⟨rfl, rfl, (by first | decide | omega)⟩
    · unfold f_M_comesOn_37
      refine zS_g (by unfold r32; omega) ?_ -- 26
      refine zS_i (fun h10 => ?_) (fun h10 => ?_) -- 27: ((-1) < 0)
      · unfold f_M_comesOn_71
        unfold f_M_comesOn_72
        refine zS_g (by first | decide | omega) ?_ -- 30
        exact zS_s ⟨rfl, rfl, (by first | decide | omega)⟩
      · refine zS_g (by first | decide | omega) ?_ -- 32
        refine zS_g (by first | decide | omega) ?_ -- 33
        have z11 := zshr_R (B 13 w 36 (((800 * u) + i) - 1)) (-1)
        have z12 := zand_R (zshr (B 13 w 36 (((800 * u) + i) - 1)) (-1)) 1
        refine zS_g (by unfold r32; omega) ?_ -- 34
        refine zS_i (fun h13 => ?_) (fun h13 => ?_) -- 35: ((zand (zshr (B 13 w 36 (((800 * u) + i) - 1)) (-1)) 1) = 1)
        · unfold f_M_comesOn_72
          refine zS_g (by first | decide | omega) ?_ -- 37
          exact zS_s ⟨rfl, rfl, (by first | decide | omega)⟩
        · unfold f_M_comesOn_71
          unfold f_M_comesOn_72
          refine zS_g (by first | decide | omega) ?_ -- 41
          exact zS_s ⟨rfl, rfl, (by first | decide | omega)⟩
  · refine zS_b (s_sounding (K := K) (i := (i - 1)) hR u0 u1 (by first | decide | omega) (by first | decide | omega)) ?_
    rintro r15 F B ⟨rfl, rfl, q14⟩
    unfold f_M_comesOn_16
    refine zS_g (by unfold r32; omega) ?_ -- 45
    refine zS_i (fun h17 => ?_) (fun h17 => ?_) -- 46: (0 ≤ r15)
    · refine zS_b (s_has (K := K) hR u0 u1 (x := r15) (a := a) (b := b) (by first | decide | omega) (by first | decide | omega) (by unfold r32; omega) (by unfold r32; omega) (by first | decide | omega)) ?_
      rintro r19 F B ⟨rfl, rfl, q18⟩
      have lkr19 := rd_e (x := r15) hR u0 u1 (by first | decide | omega) (by first | decide | omega)
      unfold f_M_comesOn_37
      refine zS_g (by unfold r32; omega) ?_ -- 49
      refine zS_i (fun h21 => ?_) (fun h21 => ?_) -- 50: (r19 < 0)
      · unfold f_M_comesOn_71
        unfold f_M_comesOn_72
        refine zS_g (by first | decide | omega) ?_ -- 53
        exact zS_s ⟨rfl, rfl, (by first | decide | omega)⟩
      · refine zS_g (by first | decide | omega) ?_ -- 55
        refine zS_g (by first | decide | omega) ?_ -- 56
        have z22 := zshr_R (B 13 w 36 (((800 * u) + i) - 1)) r19
        have z23 := zand_R (zshr (B 13 w 36 (((800 * u) + i) - 1)) r19) 1
        refine zS_g (by unfold r32; omega) ?_ -- 57
        refine zS_i (fun h24 => ?_) (fun h24 => ?_) -- 58: ((zand (zshr (B 13 w 36 (((800 * u) + i) - 1)) r19) 1) = 1)
        · unfold f_M_comesOn_72
          refine zS_g (by first | decide | omega) ?_ -- 60
          exact zS_s ⟨rfl, rfl, (by first | decide | omega)⟩
        · unfold f_M_comesOn_71
          unfold f_M_comesOn_72
          refine zS_g (by first | decide | omega) ?_ -- 64
          exact zS_s ⟨rfl, rfl, (by first | decide | omega)⟩
    · unfold f_M_comesOn_37
      refine zS_g (by unfold r32; omega) ?_ -- 67
      refine zS_i (fun h25 => ?_) (fun h25 => ?_) -- 68: ((-1) < 0)
      · unfold f_M_comesOn_71
        unfold f_M_comesOn_72
        refine zS_g (by first | decide | omega) ?_ -- 71
        exact zS_s ⟨rfl, rfl, (by first | decide | omega)⟩
      · refine zS_g (by first | decide | omega) ?_ -- 73
        refine zS_g (by first | decide | omega) ?_ -- 74
        have z26 := zshr_R (B 13 w 36 (((800 * u) + i) - 1)) (-1)
        have z27 := zand_R (zshr (B 13 w 36 (((800 * u) + i) - 1)) (-1)) 1
        refine zS_g (by unfold r32; omega) ?_ -- 75
        refine zS_i (fun h28 => ?_) (fun h28 => ?_) -- 76: ((zand (zshr (B 13 w 36 (((800 * u) + i) - 1)) (-1)) 1) = 1)
        · unfold f_M_comesOn_72
          refine zS_g (by first | decide | omega) ?_ -- 78
          exact zS_s ⟨rfl, rfl, (by first | decide | omega)⟩
        · unfold f_M_comesOn_71
          unfold f_M_comesOn_72
          refine zS_g (by first | decide | omega) ?_ -- 82
          exact zS_s ⟨rfl, rfl, (by first | decide | omega)⟩
theorem s_hol105 {K : Nat} {V w u : Int} {F : zF} {B0 : zB} (hR0 : RDW V w F B0) (u0 : 0 ≤ u) (u1 : u < V) (hK : 1000 ≤ K) {i x : Int} (i0 : 0 ≤ i) (i1 : i < B0 13 w 13 u) (x0 : 1000 * u ≤ x) (x1 : x < 1000 * u + B0 13 w 12 u) {rec : Int → Int → Int → zF → zB → zO} {Q : Int → zF → zB → Prop} (hrec : ∀ B, SQ w B0 B → zS (rec (i + 1) w u F B) Q) {t h : Int} (t0 : t = 0 ∨ (t = 1 ∧ x + 1 < 1000 * u + B0 13 w 12 u)) (h0 : h = 0 ∨ h = 1) : ∀ (n : Nat) (k : Int) (B : zB), SQ w B0 B → 0 ≤ k → k ≤ B0 13 w 21 x → B0 13 w 21 x - k < n → zS (f_M_holds_105 rec K n k t h x (800*u+i) i w u F B) (Q) := by
  intro n
  induction n with
  | zero => intro k B hq k0 k1 hk; exfalso; omega
  | succ n ih =>
    intro k B hq k0 k1 hk
    have b0 := rd_0 hR0
    have bv := rd_v hR0 u0 u1
    have be := rd_e hR0 u0 u1 x0 x1
    rw [f_M_holds_105]
    refine zS_g (by first | decide | omega) ?_ -- 1
    refine zS_g (by first | decide | omega) ?_ -- 2
    refine zS_g (by unfold r32; omega) ?_ -- 3
    have a1 := hq.2 13 w 21 x (by first | decide | omega) (by first | decide | omega)
    refine zS_g (by unfold r32; omega) ?_ -- 4
    refine zS_i (fun h2 => ?_) (fun h2 => ?_) -- 5: ((B 13 w 21 x) ≤ k)
    · unfold f_M_holds_196
      exact hrec _ hq -- 7 rec
    · refine zS_g (by unfold r32; omega) ?_ -- 8
      refine zS_i (fun h3 => ?_) (fun h3 => ?_) -- 9: (t = 0)
      · unfold f_M_holds_163
        unfold f_M_holds_164
        refine zS_g (by unfold r32; omega) ?_ -- 12
        refine zS_i (fun h4 => ?_) (fun h4 => ?_) -- 13: (h = 0)
        · refine zS_g (by unfold r32; omega) ?_ -- 14
          refine zS_i (fun h5 => ?_) (fun h5 => ?_) -- 15: (0 = 0)
          · unfold f_M_holds_190
            exact ih (k + 1) _ hq (by first | decide | omega) (by first | decide | omega) (by first | decide | omega) -- 17 f_M_holds_105
          · unfold f_M_holds_176
            refine zS_g (by first | decide | omega) ?_ -- 19
            refine zS_g (by first | decide | omega) ?_ -- 20
            have a6 := hq.1.2 w ((800 * u) + i)
            have z7 := zshl_R 1 k
            have z8 := zor_R (B 13 w 36 ((800 * u) + i)) (zshl 1 k)
            unfold f_M_holds_190
            exact ih (k + 1) _ (SQ_u (k := 36) (j := ((800 * u) + i)) (v := (zor (B 13 w 36 ((800 * u) + i)) (zshl 1 k))) hq (by decide) (by decide) (zor_R _ _)) (by first | decide | omega) (by first | decide | omega) (by first | decide | omega) -- 22 f_M_holds_105
        · unfold f_M_holds_176
          refine zS_g (by first | decide | omega) ?_ -- 24
          refine zS_g (by first | decide | omega) ?_ -- 25
          have a9 := hq.1.2 w ((800 * u) + i)
          have z10 := zshl_R 1 k
          have z11 := zor_R (B 13 w 36 ((800 * u) + i)) (zshl 1 k)
          unfold f_M_holds_190
          exact ih (k + 1) _ (SQ_u (k := 36) (j := ((800 * u) + i)) (v := (zor (B 13 w 36 ((800 * u) + i)) (zshl 1 k))) hq (by decide) (by decide) (zor_R _ _)) (by first | decide | omega) (by first | decide | omega) (by first | decide | omega) -- 27 f_M_holds_105
      · refine zS_g (by first | decide | omega) ?_ -- 28
        have a13 := hq.2 13 w 28 ((6 * x) + k) (by first | decide | omega) (by first | decide | omega)
        have a12 := rd_p (u := u) (x := x) (k := ((6 * x) + k) - 6 * x) hR0 (by first | decide | omega) (by first | decide | omega) (by first | decide | omega) (by first | decide | omega) (by first | decide | omega) (by first | decide | omega)
        have a12e : 6 * x + (((6 * x) + k) - 6 * x) = ((6 * x) + k) := by omega
        rw [a12e] at a12
        have a14 := hq.2 13 w 29 ((6 * x) + k) (by first | decide | omega) (by first | decide | omega)
        refine zS_b (s_has (K := K) (RDW_q hR0 hq) u0 u1 (x := (x + 1)) (a := (B 13 w 28 ((6 * x) + k))) (b := (B 13 w 29 ((6 * x) + k))) (by first | decide | omega) (by have := hq.2 13 w 12 u (by first | decide | omega) (by first | decide | omega); omega) (by unfold r32; omega) (by unfold r32; omega) (by first | decide | omega)) ?_
        rintro r16 F B ⟨rfl, rfl, q15⟩
        have lkar16 := hq.2 13 w 21 (x + 1) (by first | decide | omega) (by first | decide | omega)
        have lkcr16 := rd_e (x := (x + 1)) hR0 u0 u1 (by first | decide | omega) (by first | decide | omega)
        refine zS_g (by unfold r32; omega) ?_ -- 30
        refine zS_i (fun h18 => ?_) (fun h18 => ?_) -- 31: (r16 < 0)
        · unfold f_M_holds_163
          unfold f_M_holds_164
          refine zS_g (by unfold r32; omega) ?_ -- 34
          refine zS_i (fun h19 => ?_) (fun h19 => ?_) -- 35: (h = 0)
          · refine zS_g (by unfold r32; omega) ?_ -- 36
            refine zS_i (fun h20 => ?_) (fun h20 => ?_) -- 37: (0 = 0)
            · unfold f_M_holds_190
              exact ih (k + 1) _ hq (by first | decide | omega) (by first | decide | omega) (by first | decide | omega) -- 39 f_M_holds_105
            · unfold f_M_holds_176
              refine zS_g (by first | decide | omega) ?_ -- 41
              refine zS_g (by first | decide | omega) ?_ -- 42
              have a21 := hq.1.2 w ((800 * u) + i)
              have z22 := zshl_R 1 k
              have z23 := zor_R (B 13 w 36 ((800 * u) + i)) (zshl 1 k)
              unfold f_M_holds_190
              exact ih (k + 1) _ (SQ_u (k := 36) (j := ((800 * u) + i)) (v := (zor (B 13 w 36 ((800 * u) + i)) (zshl 1 k))) hq (by decide) (by decide) (zor_R _ _)) (by first | decide | omega) (by first | decide | omega) (by first | decide | omega) -- 44 f_M_holds_105
          · unfold f_M_holds_176
            refine zS_g (by first | decide | omega) ?_ -- 46
            refine zS_g (by first | decide | omega) ?_ -- 47
            have a24 := hq.1.2 w ((800 * u) + i)
            have z25 := zshl_R 1 k
            have z26 := zor_R (B 13 w 36 ((800 * u) + i)) (zshl 1 k)
            unfold f_M_holds_190
            exact ih (k + 1) _ (SQ_u (k := 36) (j := ((800 * u) + i)) (v := (zor (B 13 w 36 ((800 * u) + i)) (zshl 1 k))) hq (by decide) (by decide) (zor_R _ _)) (by first | decide | omega) (by first | decide | omega) (by first | decide | omega) -- 49 f_M_holds_105
        · unfold f_M_holds_164
          refine zS_g (by unfold r32; omega) ?_ -- 51
          refine zS_i (fun h27 => ?_) (fun h27 => ?_) -- 52: (h = 0)
          · refine zS_g (by unfold r32; omega) ?_ -- 53
            refine zS_i (fun h28 => ?_) (fun h28 => ?_) -- 54: (1 = 0)
            · unfold f_M_holds_190
              exact ih (k + 1) _ hq (by first | decide | omega) (by first | decide | omega) (by first | decide | omega) -- 56 f_M_holds_105
            · unfold f_M_holds_176
              refine zS_g (by first | decide | omega) ?_ -- 58
              refine zS_g (by first | decide | omega) ?_ -- 59
              have a29 := hq.1.2 w ((800 * u) + i)
              have z30 := zshl_R 1 k
              have z31 := zor_R (B 13 w 36 ((800 * u) + i)) (zshl 1 k)
              unfold f_M_holds_190
              exact ih (k + 1) _ (SQ_u (k := 36) (j := ((800 * u) + i)) (v := (zor (B 13 w 36 ((800 * u) + i)) (zshl 1 k))) hq (by decide) (by decide) (zor_R _ _)) (by first | decide | omega) (by first | decide | omega) (by first | decide | omega) -- 61 f_M_holds_105
          · unfold f_M_holds_176
            refine zS_g (by first | decide | omega) ?_ -- 63
            refine zS_g (by first | decide | omega) ?_ -- 64
            have a32 := hq.1.2 w ((800 * u) + i)
            have z33 := zshl_R 1 k
            have z34 := zor_R (B 13 w 36 ((800 * u) + i)) (zshl 1 k)
            unfold f_M_holds_190
            exact ih (k + 1) _ (SQ_u (k := 36) (j := ((800 * u) + i)) (v := (zor (B 13 w 36 ((800 * u) + i)) (zshl 1 k))) hq (by decide) (by decide) (zor_R _ _)) (by first | decide | omega) (by first | decide | omega) (by first | decide | omega) -- 66 f_M_holds_105
theorem s_hol2 {K : Nat} {V w u : Int} {F : zF} {B0 : zB} (hR0 : RDW V w F B0) (u0 : 0 ≤ u) (u1 : u < V) (hK : 1000 ≤ K) : ∀ (n : Nat) (i : Int) (B : zB), SQ w B0 B → 0 ≤ i → i ≤ B0 13 w 13 u → B0 13 w 13 u - i < n → zS (f_M_holds_2 K n i w u F B) (fun _ F' B' => F' = F ∧ SQ w B0 B') := by
  intro n
  induction n with
  | zero => intro i B hq i0 i1 hk; exfalso; omega
  | succ n ih =>
    intro i B hq i0 i1 hk
    have b0 := rd_0 hR0
    have bv := rd_v hR0 u0 u1
    rw [f_M_holds_2]
    refine zS_g (by first | decide | omega) ?_ -- 1
    refine zS_g (by first | decide | omega) ?_ -- 2
    refine zS_g (by unfold r32; omega) ?_ -- 3
    have a1 := hq.2 13 w 13 u (by first | decide | omega) (by first | decide | omega)
    refine zS_g (by unfold r32; omega) ?_ -- 4
    refine zS_i (fun h2 => ?_) (fun h2 => ?_) -- 5: ((B 13 w 13 u) ≤ i)
    · exact zS_s ⟨rfl, hq⟩
    · refine zS_b (s_sounding (K := K) (i := i) (RDW_q hR0 hq) u0 u1 (by first | decide | omega) (by have := hq.2 13 w 13 u (by first | decide | omega) (by first | decide | omega); omega)) ?_
      rintro r4 F B ⟨rfl, rfl, q3⟩
      have lkar4 := hq.2 13 w 12 u (by first | decide | omega) (by first | decide | omega)
      have lkbr4 := hq.2 13 w 21 r4 (by first | decide | omega) (by first | decide | omega)
      refine zS_g (by first | decide | omega) ?_ -- 8
      refine zS_g (by unfold r32; omega) ?_ -- 9
      refine zS_i (fun h6 => ?_) (fun h6 => ?_) -- 10: (0 ≤ r4)
      · refine zS_g (by unfold r32; omega) ?_ -- 11
        have a7 := (SQ_u (k := 36) (j := ((800 * u) + i)) (v := 0) hq (by decide) (by decide) (by decide)).2 13 w 13 u (by first | decide | omega) (by first | decide | omega)
        refine zS_g (by unfold r32; omega) ?_ -- 12
        refine zS_i (fun h8 => ?_) (fun h8 => ?_) -- 13: (((zup4 B 13 w 36 ((800 * u) + i) 0) 13 w 13 u) ≤ (i + 1))
        · unfold f_M_holds_80
          unfold f_M_holds_81
          refine zS_g (by first | decide | omega) ?_ -- 16
          refine zS_g (by first | decide | omega) ?_ -- 17
          have a9 := (SQ_u (k := 36) (j := ((800 * u) + i)) (v := 0) hq (by decide) (by decide) (by decide)).2 13 w 18 r4 (by first | decide | omega) (by first | decide | omega)
          have a10 := rd_e (u := u) (x := r4) hR0 (by first | decide | omega) (by first | decide | omega) (by first | decide | omega) (by first | decide | omega)
          have z11 := zand_R ((zup4 B 13 w 36 ((800 * u) + i) 0) 13 w 18 r4) 1
          have z12 : (zand ((zup4 B 13 w 36 ((800 * u) + i) 0) 13 w 18 r4) 1) = (zand (B0 13 w 18 r4) 1) := by rw [show ((zup4 B 13 w 36 ((800 * u) + i) 0) 13 w 18 r4) = (B0 13 w 18 r4) from (SQ_u (k := 36) (j := ((800 * u) + i)) (v := 0) hq (by decide) (by decide) (by decide)).2 13 w 18 r4 (by first | decide | omega) (by first | decide | omega)]
          refine zS_g (by unfold r32; omega) ?_ -- 18
          refine zS_i (fun h13 => ?_) (fun h13 => ?_) -- 19: ((zand ((zup4 B 13 w 36 ((800 * u) + i) 0) 13 w 18 r4) 1) ≤ 0)
          · unfold f_M_holds_100
            have be := rd_e (x := r4) hR0 u0 u1 (by first | decide | omega) (by first | decide | omega)
            have bt := rd_t (x := r4) hR0 u0 u1 (by first | decide | omega) (by first | decide | omega)
            refine s_hol105 hR0 u0 u1 hK (i := i) (by first | decide | omega) (by first | decide | omega) (by first | decide | omega) (by first | decide | omega) (fun B hB => ih _ B hB (by first | decide | omega) (by first | decide | omega) (by first | decide | omega)) (by first | decide | omega) (by first | decide | omega) _ _ _ (SQ_u (k := 36) (j := ((800 * u) + i)) (v := 0) hq (by decide) (by decide) (by decide)) (by first | decide | omega) (by first | decide | omega) (by first | decide | omega) -- 21 f_M_holds_105
          · unfold f_M_holds_100
            have be := rd_e (x := r4) hR0 u0 u1 (by first | decide | omega) (by first | decide | omega)
            have bt := rd_t (x := r4) hR0 u0 u1 (by first | decide | omega) (by first | decide | omega)
            refine s_hol105 hR0 u0 u1 hK (i := i) (by first | decide | omega) (by first | decide | omega) (by first | decide | omega) (by first | decide | omega) (fun B hB => ih _ B hB (by first | decide | omega) (by first | decide | omega) (by first | decide | omega)) (by first | decide | omega) (by first | decide | omega) _ _ _ (SQ_u (k := 36) (j := ((800 * u) + i)) (v := 0) hq (by decide) (by decide) (by decide)) (by first | decide | omega) (by first | decide | omega) (by first | decide | omega) -- 23 f_M_holds_105
        · refine zS_g (by first | decide | omega) ?_ -- 24
          have a14 := (SQ_u (k := 36) (j := ((800 * u) + i)) (v := 0) hq (by decide) (by decide) (by decide)).2 13 w 30 (((800 * u) + i) + 1) (by first | decide | omega) (by first | decide | omega)
          have a15 := rd_n (u := u) (y := (((800 * u) + i) + 1)) hR0 (by first | decide | omega) (by first | decide | omega) (by first | decide | omega) (by first | decide | omega)
          refine zS_g (by unfold r32; omega) ?_ -- 25
          have a16 := (SQ_u (k := 36) (j := ((800 * u) + i)) (v := 0) hq (by decide) (by decide) (by decide)).2 13 w 30 ((800 * u) + i) (by first | decide | omega) (by first | decide | omega)
          have a17 := rd_n (u := u) (y := ((800 * u) + i)) hR0 (by first | decide | omega) (by first | decide | omega) (by first | decide | omega) (by first | decide | omega)
          refine zS_g (by unfold r32; omega) ?_ -- 26
          refine zS_i (fun h18 => ?_) (fun h18 => ?_) -- 27: (((zup4 B 13 w 36 ((800 * u) + i) 0) 13 w 30 (((800 * u) + i) + 1)) = ((zup4 B 13 w 36 ((800 * u) + 
          · unfold f_M_holds_81
            refine zS_g (by first | decide | omega) ?_ -- 29
            refine zS_g (by first | decide | omega) ?_ -- 30
            have a19 := (SQ_u (k := 36) (j := ((800 * u) + i)) (v := 0) hq (by decide) (by decide) (by decide)).2 13 w 18 r4 (by first | decide | omega) (by first | decide | omega)
            have a20 := rd_e (u := u) (x := r4) hR0 (by first | decide | omega) (by first | decide | omega) (by first | decide | omega) (by first | decide | omega)
            have z21 := zand_R ((zup4 B 13 w 36 ((800 * u) + i) 0) 13 w 18 r4) 1
            have z22 : (zand ((zup4 B 13 w 36 ((800 * u) + i) 0) 13 w 18 r4) 1) = (zand (B0 13 w 18 r4) 1) := by rw [show ((zup4 B 13 w 36 ((800 * u) + i) 0) 13 w 18 r4) = (B0 13 w 18 r4) from (SQ_u (k := 36) (j := ((800 * u) + i)) (v := 0) hq (by decide) (by decide) (by decide)).2 13 w 18 r4 (by first | decide | omega) (by first | decide | omega)]
            refine zS_g (by unfold r32; omega) ?_ -- 31
            refine zS_i (fun h23 => ?_) (fun h23 => ?_) -- 32: ((zand ((zup4 B 13 w 36 ((800 * u) + i) 0) 13 w 18 r4) 1) ≤ 0)
            · unfold f_M_holds_100
              have be := rd_e (x := r4) hR0 u0 u1 (by first | decide | omega) (by first | decide | omega)
              have bt := rd_t (x := r4) hR0 u0 u1 (by first | decide | omega) (by first | decide | omega)
              refine s_hol105 hR0 u0 u1 hK (i := i) (by first | decide | omega) (by first | decide | omega) (by first | decide | omega) (by first | decide | omega) (fun B hB => ih _ B hB (by first | decide | omega) (by first | decide | omega) (by first | decide | omega)) (by first | decide | omega) (by first | decide | omega) _ _ _ (SQ_u (k := 36) (j := ((800 * u) + i)) (v := 0) hq (by decide) (by decide) (by decide)) (by first | decide | omega) (by first | decide | omega) (by first | decide | omega) -- 34 f_M_holds_105
            · unfold f_M_holds_100
              have be := rd_e (x := r4) hR0 u0 u1 (by first | decide | omega) (by first | decide | omega)
              have bt := rd_t (x := r4) hR0 u0 u1 (by first | decide | omega) (by first | decide | omega)
              refine s_hol105 hR0 u0 u1 hK (i := i) (by first | decide | omega) (by first | decide | omega) (by first | decide | omega) (by first | decide | omega) (fun B hB => ih _ B hB (by first | decide | omega) (by first | decide | omega) (by first | decide | omega)) (by first | decide | omega) (by first | decide | omega) _ _ _ (SQ_u (k := 36) (j := ((800 * u) + i)) (v := 0) hq (by decide) (by decide) (by decide)) (by first | decide | omega) (by first | decide | omega) (by first | decide | omega) -- 36 f_M_holds_105
          · unfold f_M_holds_80
            unfold f_M_holds_81
            refine zS_g (by first | decide | omega) ?_ -- 39
            refine zS_g (by first | decide | omega) ?_ -- 40
            have a24 := (SQ_u (k := 36) (j := ((800 * u) + i)) (v := 0) hq (by decide) (by decide) (by decide)).2 13 w 18 r4 (by first | decide | omega) (by first | decide | omega)
            have a25 := rd_e (u := u) (x := r4) hR0 (by first | decide | omega) (by first | decide | omega) (by first | decide | omega) (by first | decide | omega)
            have z26 := zand_R ((zup4 B 13 w 36 ((800 * u) + i) 0) 13 w 18 r4) 1
            have z27 : (zand ((zup4 B 13 w 36 ((800 * u) + i) 0) 13 w 18 r4) 1) = (zand (B0 13 w 18 r4) 1) := by rw [show ((zup4 B 13 w 36 ((800 * u) + i) 0) 13 w 18 r4) = (B0 13 w 18 r4) from (SQ_u (k := 36) (j := ((800 * u) + i)) (v := 0) hq (by decide) (by decide) (by decide)).2 13 w 18 r4 (by first | decide | omega) (by first | decide | omega)]
            refine zS_g (by unfold r32; omega) ?_ -- 41
            refine zS_i (fun h28 => ?_) (fun h28 => ?_) -- 42: ((zand ((zup4 B 13 w 36 ((800 * u) + i) 0) 13 w 18 r4) 1) ≤ 0)
            · unfold f_M_holds_100
              have be := rd_e (x := r4) hR0 u0 u1 (by first | decide | omega) (by first | decide | omega)
              have bt := rd_t (x := r4) hR0 u0 u1 (by first | decide | omega) (by first | decide | omega)
              refine s_hol105 hR0 u0 u1 hK (i := i) (by first | decide | omega) (by first | decide | omega) (by first | decide | omega) (by first | decide | omega) (fun B hB => ih _ B hB (by first | decide | omega) (by first | decide | omega) (by first | decide | omega)) (by first | decide | omega) (by first | decide | omega) _ _ _ (SQ_u (k := 36) (j := ((800 * u) + i)) (v := 0) hq (by decide) (by decide) (by decide)) (by first | decide | omega) (by first | decide | omega) (by first | decide | omega) -- 44 f_M_holds_105
            · unfold f_M_holds_100
              have be := rd_e (x := r4) hR0 u0 u1 (by first | decide | omega) (by first | decide | omega)
              have bt := rd_t (x := r4) hR0 u0 u1 (by first | decide | omega) (by first | decide | omega)
              refine s_hol105 hR0 u0 u1 hK (i := i) (by first | decide | omega) (by first | decide | omega) (by first | decide | omega) (by first | decide | omega) (fun B hB => ih _ B hB (by first | decide | omega) (by first | decide | omega) (by first | decide | omega)) (by first | decide | omega) (by first | decide | omega) _ _ _ (SQ_u (k := 36) (j := ((800 * u) + i)) (v := 0) hq (by decide) (by decide) (by decide)) (by first | decide | omega) (by first | decide | omega) (by first | decide | omega) -- 46 f_M_holds_105
      · unfold f_M_holds_196
        exact ih (i + 1) _ (SQ_u (k := 36) (j := ((800 * u) + i)) (v := 0) hq (by decide) (by decide) (by decide)) (by first | decide | omega) (by first | decide | omega) (by first | decide | omega) -- 48 f_M_holds_2
theorem s_holds {K : Nat} {V w u : Int} {F : zF} {B0 : zB} (hR0 : RDW V w F B0) (u0 : 0 ≤ u) (u1 : u < V) (hK : 1000 ≤ K) (hX : XS B0) : zS (f_M_holds K w u F B0) (fun _ F' B' => F' = F ∧ SQ w B0 B') := by
  have bv := rd_v hR0 u0 u1
  exact s_hol2 hR0 u0 u1 hK K 0 B0 (SQ_r hX) (by first | decide | omega) (by first | decide | omega) (by first | decide | omega)
theorem s_inKey {K : Nat} {a s : Int} {F : zF} {B : zB} (a0 : -7 ≤ a) (a1 : a ≤ 7) (s0 : 0 ≤ s) (s1 : s ≤ 6) : zS (f_M_inKey K a s F B) (fun r F' B' => F' = F ∧ B' = B ∧ -1 ≤ r ∧ r ≤ 1) := by
  unfold f_M_inKey
  rw [L_mod (show r32 (2 * s - 6) by unfold r32; omega) (by decide) (by decide)]
  rw [zb_s]
  have m0 := Int.emod_nonneg (2 * s - 6) (show (7 : Int) ≠ 0 by decide)
  have m1 := Int.emod_lt_of_pos (2 * s - 6) (show (0 : Int) < 7 by decide)
  refine zS_g (by unfold r32; omega) ?_
  refine zS_i (fun h1 => ?_) (fun h1 => ?_)
  · refine zS_g (by unfold r32; omega) ?_
    refine zS_g (by unfold r32; omega) ?_
    refine zS_i (fun h2 => ?_) (fun h2 => ?_)
    · unfold f_M_inKey_43
      exact zS_s ⟨rfl, rfl, (by first | decide | omega)⟩
    · unfold f_M_inKey_43
      exact zS_s ⟨rfl, rfl, (by first | decide | omega)⟩
  · refine zS_g (by unfold r32; omega) ?_
    refine zS_i (fun h2 => ?_) (fun h2 => ?_)
    · unfold f_M_inKey_31
      exact zS_s ⟨rfl, rfl, (by first | decide | omega)⟩
    · unfold f_M_inKey_31
      exact zS_s ⟨rfl, rfl, (by first | decide | omega)⟩
theorem s_acc100 {K : Nat} {V w u : Int} {F : zF} {B0 : zB} (hR0 : RDW V w F B0) (u0 : 0 ≤ u) (u1 : u < V) (hK : 1000 ≤ K) {rec : Int → Int → Int → Int → zF → zB → zO} {Q : Int → zF → zB → Prop} {i l3 : Int} (i0 : 0 ≤ i) (i1 : i < B0 13 w 13 u) (hrec : ∀ l3 B, r32 l3 → SQ w B0 B → zS (rec (i + 1) l3 w u F B) Q) (r3 : r32 l3) {x : Int} (x0 : x = -1 ∨ (1000 * u ≤ x ∧ x < 1000 * u + B0 13 w 12 u)) : ∀ (n : Nat) (k : Int) (B : zB), SQ w B0 B → 0 ≤ k → k ≤ 6 → 6 - k < n → zS (f_M_accidentals_100 rec K n k x (800*u+i) i l3 w u F B) (Q) := by
  intro n
  induction n with
  | zero => intro k B hq k0 k1 hk; exfalso; omega
  | succ n ih =>
    intro k B hq k0 k1 hk
    have b0 := rd_0 hR0
    have bv := rd_v hR0 u0 u1
    rw [f_M_accidentals_100]
    refine zS_g (by unfold r32; omega) ?_ -- 1
    refine zS_i (fun h1 => ?_) (fun h1 => ?_) -- 2: (x < 0)
    · unfold f_M_accidentals_206
      exact hrec _ _ r3 hq -- 4 rec
    · refine zS_g (by first | decide | omega) ?_ -- 5
      refine zS_g (by first | decide | omega) ?_ -- 6
      refine zS_g (by unfold r32; omega) ?_ -- 7
      have a2 := hq.2 13 w 21 x (by first | decide | omega) (by first | decide | omega)
      have a3 := rd_e (u := u) (x := x) hR0 (by first | decide | omega) (by first | decide | omega) (by first | decide | omega) (by first | decide | omega)
      refine zS_g (by unfold r32; omega) ?_ -- 8
      refine zS_i (fun h4 => ?_) (fun h4 => ?_) -- 9: ((B 13 w 21 x) ≤ k)
      · unfold f_M_accidentals_206
        exact hrec _ _ r3 hq -- 11 rec
      · refine zS_g (by first | decide | omega) ?_ -- 12
        have a6 := hq.2 13 w 28 ((6 * x) + k) (by first | decide | omega) (by first | decide | omega)
        have a5 := rd_p (u := u) (x := x) (k := ((6 * x) + k) - 6 * x) hR0 (by first | decide | omega) (by first | decide | omega) (by first | decide | omega) (by first | decide | omega) (by first | decide | omega) (by first | decide | omega)
        have a5e : 6 * x + (((6 * x) + k) - 6 * x) = ((6 * x) + k) := by omega
        rw [a5e] at a5
        have a7 := hq.2 13 w 29 ((6 * x) + k) (by first | decide | omega) (by first | decide | omega)
        refine zS_b (s_comesOn (K := K) (i := i) (RDW_q hR0 hq) u0 u1 (by first | decide | omega) (by have := hq.2 13 w 13 u (by first | decide | omega) (by first | decide | omega); omega) (by unfold r32; omega) (by unfold r32; omega) (by first | decide | omega)) ?_
        rintro r9 F B ⟨rfl, rfl, q8⟩
        refine zS_g (by unfold r32; omega) ?_ -- 14
        refine zS_i (fun h11 => ?_) (fun h11 => ?_) -- 15: (r9 = 0)
        · refine zS_g (by first | decide | omega) ?_ -- 16
          have a12 := hq.1.1 (B 13 w 28 ((6 * x) + k))
          refine zS_g (by unfold r32; omega) ?_ -- 17
          refine zS_g (by unfold r32; omega) ?_ -- 18
          refine zS_i (fun h13 => ?_) (fun h13 => ?_) -- 19: ((B 14 0 58 (B 13 w 28 ((6 * x) + k))) = (B 13 w 29 ((6 * x) + k)))
          · unfold f_M_accidentals_200
            exact ih (k + 1) _ hq (by first | decide | omega) (by first | decide | omega) (by first | decide | omega) -- 21 f_M_accidentals_100
          · refine zS_g (by first | decide | omega) ?_ -- 22
            have a14 := hq.1.2 w ((800 * u) + i)
            have z15 := zshl_R 1 k
            have z16 := zor_R (B 13 w 37 ((800 * u) + i)) (zshl 1 k)
            unfold f_M_accidentals_200
            exact ih (k + 1) _ (SQ_8 (j := (B 13 w 28 ((6 * x) + k))) (v := (B 13 w 29 ((6 * x) + k))) (SQ_u (k := 37) (j := ((800 * u) + i)) (v := (zor (B 13 w 37 ((800 * u) + i)) (zshl 1 k))) hq (by decide) (by decide) (zor_R _ _)) (by unfold r32; omega)) (by first | decide | omega) (by first | decide | omega) (by first | decide | omega) -- 24 f_M_accidentals_100
        · unfold f_M_accidentals_200
          exact ih (k + 1) _ hq (by first | decide | omega) (by first | decide | omega) (by first | decide | omega) -- 26 f_M_accidentals_100
theorem s_acc80 {K : Nat} {V w u : Int} {F : zF} {B0 : zB} (hR0 : RDW V w F B0) (u0 : 0 ≤ u) (u1 : u < V) (hK : 1000 ≤ K) {rec : Int → Int → Int → Int → zF → zB → zO} {Q : Int → zF → zB → Prop} {i l3 : Int} (i0 : 0 ≤ i) (i1 : i < B0 13 w 13 u) (hrec : ∀ l3 B, r32 l3 → SQ w B0 B → zS (rec (i + 1) l3 w u F B) Q) (r3 : r32 l3) {B : zB} (hq : SQ w B0 B) : zS (f_M_accidentals_80 rec K (800*u+i) i l3 w u F B) Q := by
  have b0 := rd_0 hR0
  have bv := rd_v hR0 u0 u1
  unfold f_M_accidentals_80
  refine zS_g (by first | decide | omega) ?_
  refine zS_g (by first | decide | omega) ?_
  have h2 : SQ w B0 (zup4 B 13 w 37 (800*u+i) 0) := SQ_u hq (by decide) (by decide) (by decide)
  refine zS_b (s_sounding (K := K) (i := i) (RDW_q hR0 h2) u0 u1 (by first | decide | omega) (by have := h2.2 13 w 13 u (by first | decide | omega) (by first | decide | omega); omega)) ?_
  rintro r _ _ ⟨rfl, rfl, q⟩
  have e := h2.2 13 w 12 u (by first | decide | omega) (by first | decide | omega)
  exact s_acc100 hR0 u0 u1 hK i0 i1 hrec r3 (by first | decide | omega) K 0 _ h2 (by first | decide | omega) (by first | decide | omega) (by first | decide | omega)
theorem s_acc40 {K : Nat} {V w u : Int} {F : zF} {B0 : zB} (hR0 : RDW V w F B0) (u0 : 0 ≤ u) (u1 : u < V) (hK : 1000 ≤ K) {rec : Int → Int → Int → Int → zF → zB → zO} {Q : Int → zF → zB → Prop} {i l3 : Int} (i0 : 0 ≤ i) (i1 : i < B0 13 w 13 u) (hrec : ∀ l3 B, r32 l3 → SQ w B0 B → zS (rec (i + 1) l3 w u F B) Q) : ∀ (n : Nat) (k : Int) (B : zB), SQ w B0 B → 0 ≤ k → k ≤ 63 → 63 - k < n → zS (f_M_accidentals_40 rec K n k (800*u+i) i w u F B) (Q) := by
  intro n
  induction n with
  | zero => intro k B hq k0 k1 hk; exfalso; omega
  | succ n ih =>
    intro k B hq k0 k1 hk
    have b0 := rd_0 hR0
    have bv := rd_v hR0 u0 u1
    have zk : k < 63 → zrm k 7 = k % 7 := fun h => zrm_e k0 (by unfold r32; omega) (by decide) (by decide)
    have zk2 : 0 ≤ k % 7 ∧ k % 7 < 7 := by omega
    rw [f_M_accidentals_40]
    refine zS_g (by unfold r32; omega) ?_ -- 1
    refine zS_i (fun h1 => ?_) (fun h1 => ?_) -- 2: (63 ≤ k)
    · refine zS_g (by first | decide | omega) ?_ -- 3
      refine zS_g (by first | decide | omega) ?_ -- 4
      have a2 := hq.2 13 w 31 ((800 * u) + i) (by first | decide | omega) (by first | decide | omega)
      have a3 := rd_n (u := u) (y := ((800 * u) + i)) hR0 (by first | decide | omega) (by first | decide | omega) (by first | decide | omega) (by first | decide | omega)
      exact s_acc80 hR0 u0 u1 hK i0 i1 hrec (by unfold r32; omega) hq -- 5 f_M_accidentals_80
    · refine zS_g (by first | decide | omega) ?_ -- 6
      have z4 := zrm_R k 7
      refine zS_b (s_inKey (K := K) (a := (F 13 w 2)) (s := (zrm k 7)) (by first | decide | omega) (by first | decide | omega) (by first | decide | omega) (by first | decide | omega)) ?_
      rintro r6 F B ⟨rfl, rfl, q5⟩
      refine zS_g (by first | decide | omega) ?_ -- 8
      exact ih (k + 1) _ (SQ_8 (j := k) (v := r6) hq (by unfold r32; omega)) (by first | decide | omega) (by first | decide | omega) (by first | decide | omega) -- 9 f_M_accidentals_40
theorem s_acc5 {K : Nat} {V w u : Int} {F : zF} {B0 : zB} (hR0 : RDW V w F B0) (u0 : 0 ≤ u) (u1 : u < V) (hK : 1000 ≤ K) : ∀ (n : Nat) (i l3 : Int) (B : zB), r32 l3 → SQ w B0 B → 0 ≤ i → i ≤ B0 13 w 13 u → B0 13 w 13 u - i < n → zS (f_M_accidentals_5 K n i l3 w u F B) (fun _ F' B' => F' = F ∧ SQ w B0 B') := by
  intro n
  induction n with
  | zero => intro i l3 B r3 hq i0 i1 hk; exfalso; omega
  | succ n ih =>
    intro i l3 B r3 hq i0 i1 hk
    have b0 := rd_0 hR0
    have bv := rd_v hR0 u0 u1
    rw [f_M_accidentals_5]
    refine zS_g (by first | decide | omega) ?_ -- 1
    refine zS_g (by first | decide | omega) ?_ -- 2
    refine zS_g (by unfold r32; omega) ?_ -- 3
    have a1 := hq.2 13 w 13 u (by first | decide | omega) (by first | decide | omega)
    refine zS_g (by unfold r32; omega) ?_ -- 4
    refine zS_i (fun h2 => ?_) (fun h2 => ?_) -- 5: ((B 13 w 13 u) ≤ i)
    · exact zS_s ⟨rfl, hq⟩
    · refine zS_g (by first | decide | omega) ?_ -- 7
      have a3 := hq.2 13 w 31 ((800 * u) + i) (by first | decide | omega) (by first | decide | omega)
      have a4 := rd_n (u := u) (y := ((800 * u) + i)) hR0 (by first | decide | omega) (by first | decide | omega) (by first | decide | omega) (by first | decide | omega)
      refine zS_g (by unfold r32; omega) ?_ -- 8
      refine zS_g (by unfold r32; omega) ?_ -- 9
      refine zS_i (fun h5 => ?_) (fun h5 => ?_) -- 10: ((B 13 w 31 ((800 * u) + i)) = l3)
      · exact s_acc80 hR0 u0 u1 hK (i := i) (by first | decide | omega) (by first | decide | omega) (fun l3 B h3 hB => ih _ _ B h3 hB (by first | decide | omega) (by first | decide | omega) (by first | decide | omega)) r3 hq -- 11 f_M_accidentals_80
      · exact s_acc40 (l3 := 0) hR0 u0 u1 hK (i := i) (by first | decide | omega) (by first | decide | omega) (fun l3 B h3 hB => ih _ _ B h3 hB (by first | decide | omega) (by first | decide | omega) (by first | decide | omega)) K 0 _ hq (by first | decide | omega) (by first | decide | omega) (by first | decide | omega) -- 12 f_M_accidentals_40
theorem s_accidentals {K : Nat} {V w u : Int} {F : zF} {B0 : zB} (hR0 : RDW V w F B0) (u0 : 0 ≤ u) (u1 : u < V) (hK : 1000 ≤ K) (hX : XS B0) : zS (f_M_accidentals K w u F B0) (fun _ F' B' => F' = F ∧ SQ w B0 B') := by
  have bv := rd_v hR0 u0 u1
  exact s_acc5 hR0 u0 u1 hK K 0 (-1) B0 (by decide) (SQ_r hX) (by first | decide | omega) (by first | decide | omega) (by first | decide | omega)
theorem s_ledgers {K : Nat} {V w u : Int} {F : zF} {B : zB} (hR : RDW V w F B) (u0 : 0 ≤ u) (u1 : u < V) {i : Int} (i0 : 0 ≤ i) (i1 : i < B 13 w 13 u) : zS (f_M_ledgers K w u i F B) (fun r F' B' => F' = F ∧ B' = B ∧ (r32 r)) := by
  have b0 := rd_0 hR
  have bv := rd_v hR u0 u1
  unfold f_M_ledgers
  refine zS_b (s_sounding (K := K) (i := i) hR u0 u1 (by first | decide | omega) (by first | decide | omega)) ?_
  rintro r2 F B ⟨rfl, rfl, q1⟩
  refine zS_g (by unfold r32; omega) ?_ -- 2
  refine zS_i (fun h4 => ?_) (fun h4 => ?_) -- 3: (0 ≤ r2)
  · refine zS_b (s_highest (K := K) (x := r2) hR u0 u1 (by first | decide | omega) (by first | decide | omega) (by first | decide | omega)) ?_
    rintro r6 F B ⟨rfl, rfl, q5⟩
    refine zS_b (s_lowest (K := K) (x := r2) hR u0 u1 (by first | decide | omega) (by first | decide | omega) (by first | decide | omega)) ?_
    rintro r9 F B ⟨rfl, rfl, q8⟩
    refine zS_g (by unfold r32; omega) ?_ -- 6
    refine zS_i (fun h11 => ?_) (fun h11 => ?_) -- 7: (r6 ≤ 8)
    · unfold f_M_ledgers_51
      refine zS_g (by unfold r32; omega) ?_ -- 9
      refine zS_i (fun h12 => ?_) (fun h12 => ?_) -- 10: (0 ≤ r9)
      · unfold f_M_ledgers_65
        exact zS_s ⟨rfl, rfl, by unfold r32; omega⟩
      · have a13 := zdv_e (a := (-r9)) (b := 2) (by first | decide | omega) (by unfold r32; omega) (by decide) (by decide)
        unfold f_M_ledgers_65
        exact zS_s ⟨rfl, rfl, by unfold r32; omega⟩
    · have a14 := zdv_e (a := (r6 - 8)) (b := 2) (by first | decide | omega) (by unfold r32; omega) (by decide) (by decide)
      unfold f_M_ledgers_51
      refine zS_g (by unfold r32; omega) ?_ -- 16
      refine zS_i (fun h15 => ?_) (fun h15 => ?_) -- 17: (0 ≤ r9)
      · unfold f_M_ledgers_65
        exact zS_s ⟨rfl, rfl, by unfold r32; omega⟩
      · have a16 := zdv_e (a := (-r9)) (b := 2) (by first | decide | omega) (by unfold r32; omega) (by decide) (by decide)
        unfold f_M_ledgers_65
        exact zS_s ⟨rfl, rfl, by unfold r32; omega⟩
  · exact zS_s ⟨rfl, rfl, by unfold r32; omega⟩
end
