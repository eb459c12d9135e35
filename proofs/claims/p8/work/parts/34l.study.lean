section
/-! ===== study: its readers return ===== -/
theorem zabs_b (x : Int) : 0 ≤ zabs x ∧ (zabs x = x ∨ zabs x = -x) := by unfold zabs; split <;> omega
theorem zrm_b {a b : Int} (ha : r32 a) (hb : 0 < b ∧ b ≤ 1000) : -b < zrm a b ∧ zrm a b < b := by
  rw [zrm_t ha hb.1 (by unfold r32; omega)]
  rcases Int.lt_or_le a 0 with n | n
  · obtain ⟨c, rfl⟩ : ∃ c, a = -c := ⟨-a, (by first | decide | omega)⟩
    rw [Int.neg_tmod, Int.tmod_eq_emod_of_nonneg (by first | decide | omega)]
    have h1 := Int.emod_nonneg c (show b ≠ 0 by omega)
    have h2 := Int.emod_lt_of_pos c hb.1
    omega
  · rw [Int.tmod_eq_emod_of_nonneg n]
    have h1 := Int.emod_nonneg a (show b ≠ 0 by omega)
    have h2 := Int.emod_lt_of_pos a hb.1
    omega
theorem s_fm {K : zK} {a b : Int} {F : zF} {B : zB} (ha : r32 a) (hb : 0 < b) (hb2 : b ≤ 1000) : zS (f_Math_floorMod K a b F B) (fun r F' B' => F' = F ∧ B' = B ∧ -b < r ∧ r < 2 * b) := by
  have z := zrm_b ha ⟨hb, hb2⟩
  unfold f_Math_floorMod f_Math_floorMod_18
  refine zS_g (iI_n0 hb (by unfold r32; omega)) (zS_g (toI_r _) (zS_i (fun _ => zS_s ⟨rfl, rfl, (by first | decide | omega), (by first | decide | omega)⟩) (fun _ => zS_g (zrm_R _ _) (zS_i (fun _ => zS_s ⟨rfl, rfl, (by first | decide | omega), (by first | decide | omega)⟩) (fun _ => zS_s ⟨rfl, rfl, (by first | decide | omega), (by first | decide | omega)⟩)))))
theorem z9_l : ztl 9 = 7 := by decide +kernel
theorem z10_l : ztl 10 = 7 := by decide +kernel
theorem z9_f : ∀ k : Fin 7, r32 (ztv 9 (k.val : Int)) ∧ r32 (ztv 10 (k.val : Int)) := by decide +kernel
theorem z9_v (x : Int) (h0 : 0 ≤ x) (h1 : x < 7) : r32 (ztv 9 x) := by
  have k := (z9_f ⟨x.toNat, (by first | decide | omega)⟩).1
  rw [show (((⟨x.toNat, (by first | decide | omega)⟩ : Fin 7).val : Nat) : Int) = x by show ((x.toNat : Nat) : Int) = x; omega] at k
  exact k
theorem z10_v (x : Int) (h0 : 0 ≤ x) (h1 : x < 7) : r32 (ztv 10 x) := by
  have k := (z9_f ⟨x.toNat, (by first | decide | omega)⟩).2
  rw [show (((⟨x.toNat, (by first | decide | omega)⟩ : Fin 7).val : Nat) : Int) = x by show ((x.toNat : Nat) : Int) = x; omega] at k
  exact k
theorem s_cons {K : zK} {a b c d : Int} {F : zF} {B : zB} (ha : -1 ≤ a ∧ a ≤ 200) (hb : -1 ≤ b ∧ b ≤ 200) (hc : -1 ≤ c ∧ c ≤ 200) (hd : -1 ≤ d ∧ d ≤ 200) : zS (f_Study_consonance K a b c d F B) (fun r F' B' => F' = F ∧ B' = B ∧ (0 ≤ r ∧ r ≤ 2)) := by
  unfold f_Study_consonance
  refine zS_g (by unfold r32; omega) ?_ -- 1
  refine zS_g (by unfold r32; omega) ?_ -- 2
  refine zS_i (fun h1 => ?_) (fun h1 => ?_) -- 3: (d ≤ b)
  · unfold f_Study_consonance_10
    refine zS_g (by unfold r32; omega) ?_ -- 5
    refine zS_i (fun h2 => ?_) (fun h2 => ?_) -- 6: (0 = 0)
    · unfold f_Study_consonance_26
      refine zS_b (s_fm (K := K) (a := (a - c)) (b := 7) (by unfold r32; omega) (by first | decide | omega) (by first | decide | omega)) ?_
      rintro o4 F B ⟨rfl, rfl, q3⟩
      refine zS_g (by unfold r32; omega) ?_ -- 9
      refine zS_g (by unfold r32; omega) ?_ -- 10
      refine zS_i (fun h6 => ?_) (fun h6 => ?_) -- 11: (o4 = 0)
      · have a7 := zabs_b (b - d)
        have a8 := zrm_R (zabs (b - d)) 12
        refine zS_g (by unfold r32; omega) ?_ -- 12
        refine zS_i (fun h9 => ?_) (fun h9 => ?_) -- 13: ((zrm (zabs (b - d)) 12) = 0)
        · exact zS_s ⟨rfl, rfl, (by first | decide | omega)⟩
        · unfold f_Study_consonance_56
          refine zS_g (by unfold r32; omega) ?_ -- 16
          refine zS_i (fun h10 => ?_) (fun h10 => ?_) -- 17: (o4 = 4)
          · refine zS_g (by unfold r32; omega) ?_ -- 18
            refine zS_i (fun h11 => ?_) (fun h11 => ?_) -- 19: ((zrm (zabs (b - d)) 12) = 7)
            · unfold f_Study_consonance_74
              exact zS_s ⟨rfl, rfl, (by first | decide | omega)⟩
            · unfold f_Study_consonance_73
              unfold f_Study_consonance_74
              exact zS_s ⟨rfl, rfl, (by first | decide | omega)⟩
          · unfold f_Study_consonance_73
            unfold f_Study_consonance_74
            exact zS_s ⟨rfl, rfl, (by first | decide | omega)⟩
      · have a12 := zabs_b (b - d)
        have a13 := zrm_R (zabs (b - d)) 12
        unfold f_Study_consonance_56
        refine zS_g (by unfold r32; omega) ?_ -- 29
        refine zS_i (fun h14 => ?_) (fun h14 => ?_) -- 30: (o4 = 4)
        · refine zS_g (by unfold r32; omega) ?_ -- 31
          refine zS_i (fun h15 => ?_) (fun h15 => ?_) -- 32: ((zrm (zabs (b - d)) 12) = 7)
          · unfold f_Study_consonance_74
            exact zS_s ⟨rfl, rfl, (by first | decide | omega)⟩
          · unfold f_Study_consonance_73
            unfold f_Study_consonance_74
            exact zS_s ⟨rfl, rfl, (by first | decide | omega)⟩
        · unfold f_Study_consonance_73
          unfold f_Study_consonance_74
          exact zS_s ⟨rfl, rfl, (by first | decide | omega)⟩
    · unfold f_Study_consonance_26
      refine zS_b (s_fm (K := K) (a := (c - a)) (b := 7) (by unfold r32; omega) (by first | decide | omega) (by first | decide | omega)) ?_
      rintro o17 F B ⟨rfl, rfl, q16⟩
      refine zS_g (by unfold r32; omega) ?_ -- 43
      refine zS_g (by unfold r32; omega) ?_ -- 44
      refine zS_i (fun h19 => ?_) (fun h19 => ?_) -- 45: (o17 = 0)
      · have a20 := zabs_b (b - d)
        have a21 := zrm_R (zabs (b - d)) 12
        refine zS_g (by unfold r32; omega) ?_ -- 46
        refine zS_i (fun h22 => ?_) (fun h22 => ?_) -- 47: ((zrm (zabs (b - d)) 12) = 0)
        · exact zS_s ⟨rfl, rfl, (by first | decide | omega)⟩
        · unfold f_Study_consonance_56
          refine zS_g (by unfold r32; omega) ?_ -- 50
          refine zS_i (fun h23 => ?_) (fun h23 => ?_) -- 51: (o17 = 4)
          · refine zS_g (by unfold r32; omega) ?_ -- 52
            refine zS_i (fun h24 => ?_) (fun h24 => ?_) -- 53: ((zrm (zabs (b - d)) 12) = 7)
            · unfold f_Study_consonance_74
              exact zS_s ⟨rfl, rfl, (by first | decide | omega)⟩
            · unfold f_Study_consonance_73
              unfold f_Study_consonance_74
              exact zS_s ⟨rfl, rfl, (by first | decide | omega)⟩
          · unfold f_Study_consonance_73
            unfold f_Study_consonance_74
            exact zS_s ⟨rfl, rfl, (by first | decide | omega)⟩
      · have a25 := zabs_b (b - d)
        have a26 := zrm_R (zabs (b - d)) 12
        unfold f_Study_consonance_56
        refine zS_g (by unfold r32; omega) ?_ -- 63
        refine zS_i (fun h27 => ?_) (fun h27 => ?_) -- 64: (o17 = 4)
        · refine zS_g (by unfold r32; omega) ?_ -- 65
          refine zS_i (fun h28 => ?_) (fun h28 => ?_) -- 66: ((zrm (zabs (b - d)) 12) = 7)
          · unfold f_Study_consonance_74
            exact zS_s ⟨rfl, rfl, (by first | decide | omega)⟩
          · unfold f_Study_consonance_73
            unfold f_Study_consonance_74
            exact zS_s ⟨rfl, rfl, (by first | decide | omega)⟩
        · unfold f_Study_consonance_73
          unfold f_Study_consonance_74
          exact zS_s ⟨rfl, rfl, (by first | decide | omega)⟩
  · unfold f_Study_consonance_10
    refine zS_g (by unfold r32; omega) ?_ -- 76
    refine zS_i (fun h29 => ?_) (fun h29 => ?_) -- 77: (1 = 0)
    · unfold f_Study_consonance_26
      refine zS_b (s_fm (K := K) (a := (a - c)) (b := 7) (by unfold r32; omega) (by first | decide | omega) (by first | decide | omega)) ?_
      rintro o31 F B ⟨rfl, rfl, q30⟩
      refine zS_g (by unfold r32; omega) ?_ -- 80
      refine zS_g (by unfold r32; omega) ?_ -- 81
      refine zS_i (fun h33 => ?_) (fun h33 => ?_) -- 82: (o31 = 0)
      · have a34 := zabs_b (b - d)
        have a35 := zrm_R (zabs (b - d)) 12
        refine zS_g (by unfold r32; omega) ?_ -- 83
        refine zS_i (fun h36 => ?_) (fun h36 => ?_) -- 84: ((zrm (zabs (b - d)) 12) = 0)
        · exact zS_s ⟨rfl, rfl, (by first | decide | omega)⟩
        · unfold f_Study_consonance_56
          refine zS_g (by unfold r32; omega) ?_ -- 87
          refine zS_i (fun h37 => ?_) (fun h37 => ?_) -- 88: (o31 = 4)
          · refine zS_g (by unfold r32; omega) ?_ -- 89
            refine zS_i (fun h38 => ?_) (fun h38 => ?_) -- 90: ((zrm (zabs (b - d)) 12) = 7)
            · unfold f_Study_consonance_74
              exact zS_s ⟨rfl, rfl, (by first | decide | omega)⟩
            · unfold f_Study_consonance_73
              unfold f_Study_consonance_74
              exact zS_s ⟨rfl, rfl, (by first | decide | omega)⟩
          · unfold f_Study_consonance_73
            unfold f_Study_consonance_74
            exact zS_s ⟨rfl, rfl, (by first | decide | omega)⟩
      · have a39 := zabs_b (b - d)
        have a40 := zrm_R (zabs (b - d)) 12
        unfold f_Study_consonance_56
        refine zS_g (by unfold r32; omega) ?_ -- 100
        refine zS_i (fun h41 => ?_) (fun h41 => ?_) -- 101: (o31 = 4)
        · refine zS_g (by unfold r32; omega) ?_ -- 102
          refine zS_i (fun h42 => ?_) (fun h42 => ?_) -- 103: ((zrm (zabs (b - d)) 12) = 7)
          · unfold f_Study_consonance_74
            exact zS_s ⟨rfl, rfl, (by first | decide | omega)⟩
          · unfold f_Study_consonance_73
            unfold f_Study_consonance_74
            exact zS_s ⟨rfl, rfl, (by first | decide | omega)⟩
        · unfold f_Study_consonance_73
          unfold f_Study_consonance_74
          exact zS_s ⟨rfl, rfl, (by first | decide | omega)⟩
    · unfold f_Study_consonance_26
      refine zS_b (s_fm (K := K) (a := (c - a)) (b := 7) (by unfold r32; omega) (by first | decide | omega) (by first | decide | omega)) ?_
      rintro o44 F B ⟨rfl, rfl, q43⟩
      refine zS_g (by unfold r32; omega) ?_ -- 114
      refine zS_g (by unfold r32; omega) ?_ -- 115
      refine zS_i (fun h46 => ?_) (fun h46 => ?_) -- 116: (o44 = 0)
      · have a47 := zabs_b (b - d)
        have a48 := zrm_R (zabs (b - d)) 12
        refine zS_g (by unfold r32; omega) ?_ -- 117
        refine zS_i (fun h49 => ?_) (fun h49 => ?_) -- 118: ((zrm (zabs (b - d)) 12) = 0)
        · exact zS_s ⟨rfl, rfl, (by first | decide | omega)⟩
        · unfold f_Study_consonance_56
          refine zS_g (by unfold r32; omega) ?_ -- 121
          refine zS_i (fun h50 => ?_) (fun h50 => ?_) -- 122: (o44 = 4)
          · refine zS_g (by unfold r32; omega) ?_ -- 123
            refine zS_i (fun h51 => ?_) (fun h51 => ?_) -- 124: ((zrm (zabs (b - d)) 12) = 7)
            · unfold f_Study_consonance_74
              exact zS_s ⟨rfl, rfl, (by first | decide | omega)⟩
            · unfold f_Study_consonance_73
              unfold f_Study_consonance_74
              exact zS_s ⟨rfl, rfl, (by first | decide | omega)⟩
          · unfold f_Study_consonance_73
            unfold f_Study_consonance_74
            exact zS_s ⟨rfl, rfl, (by first | decide | omega)⟩
      · have a52 := zabs_b (b - d)
        have a53 := zrm_R (zabs (b - d)) 12
        unfold f_Study_consonance_56
        refine zS_g (by unfold r32; omega) ?_ -- 134
        refine zS_i (fun h54 => ?_) (fun h54 => ?_) -- 135: (o44 = 4)
        · refine zS_g (by unfold r32; omega) ?_ -- 136
          refine zS_i (fun h55 => ?_) (fun h55 => ?_) -- 137: ((zrm (zabs (b - d)) 12) = 7)
          · unfold f_Study_consonance_74
            exact zS_s ⟨rfl, rfl, (by first | decide | omega)⟩
          · unfold f_Study_consonance_73
            unfold f_Study_consonance_74
            exact zS_s ⟨rfl, rfl, (by first | decide | omega)⟩
        · unfold f_Study_consonance_73
          unfold f_Study_consonance_74
          exact zS_s ⟨rfl, rfl, (by first | decide | omega)⟩
theorem s_one125 {K : zK} {a b : Int} {F : zF} {B : zB} (ha : 0 ≤ a ∧ a ≤ 300) (hb : -300 ≤ b ∧ b ≤ 300) : zS (f_Study_isFaultOfOne_125 K a b F B) (fun r F' B' => F' = F ∧ B' = B ∧ (r = 0 ∨ r = 1)) := by
  have e7 : zrm a 7 = a % 7 := zrm_e ha.1 (by unfold r32; omega) (by decide) (by decide)
  have z9 := z9_l
  have z10 := z10_l
  have v9 := z9_v (a % 7) (by first | decide | omega) (by first | decide | omega)
  have v10 := z10_v (a % 7) (by first | decide | omega) (by first | decide | omega)
  rw [← e7] at v9 v10
  unfold f_Study_isFaultOfOne_125
  refine zS_b (s_fm (K := K) (a := b) (b := 12) (by unfold r32; omega) (by first | decide | omega) (by first | decide | omega)) ?_
  rintro o2 F B ⟨rfl, rfl, q1⟩
  have a4 := zrm_R a 7
  refine zS_g (by first | decide | omega) ?_ -- 2
  refine zS_g (by unfold r32; omega) ?_ -- 3
  refine zS_g (by unfold r32; omega) ?_ -- 4
  refine zS_i (fun h5 => ?_) (fun h5 => ?_) -- 5: (o2 < (ztv 9 (zrm a 7)))
  · unfold f_Study_isFaultOfOne_162
    unfold f_Study_isFaultOfOne_167
    refine zS_g (by first | decide | omega) ?_ -- 8
    exact zS_s ⟨rfl, rfl, (by first | decide | omega)⟩
  · refine zS_g (by first | decide | omega) ?_ -- 10
    refine zS_g (by unfold r32; omega) ?_ -- 11
    refine zS_i (fun h6 => ?_) (fun h6 => ?_) -- 12: (o2 ≤ (ztv 10 (zrm a 7)))
    · unfold f_Study_isFaultOfOne_167
      refine zS_g (by first | decide | omega) ?_ -- 14
      exact zS_s ⟨rfl, rfl, (by first | decide | omega)⟩
    · unfold f_Study_isFaultOfOne_162
      unfold f_Study_isFaultOfOne_167
      refine zS_g (by first | decide | omega) ?_ -- 18
      exact zS_s ⟨rfl, rfl, (by first | decide | omega)⟩
theorem s_one {K : zK} {t k u : Int} {F : zF} {B : zB} (ht : 0 ≤ t ∧ t < K.2 9) (hu : 0 ≤ u ∧ u < 4) (hk : r32 k) (hS : ∀ j, (-1 ≤ B 9 t 5 j ∧ B 9 t 5 j ≤ 200) ∧ (-1 ≤ B 9 t 6 j ∧ B 9 t 6 j ≤ 200) ∧ (-1 ≤ B 9 t 7 j ∧ B 9 t 7 j ≤ 200) ∧ (-1 ≤ B 9 t 8 j ∧ B 9 t 8 j ≤ 200) ∧ (0 ≤ B 9 t 9 j ∧ B 9 t 9 j ≤ 1) ∧ r32 (B 9 t 10 j)) : zS (f_Study_isFaultOfOne K t k u F B) (fun r F' B' => F' = F ∧ B' = B ∧ (r = 0 ∨ r = 1)) := by
  unfold f_Study_isFaultOfOne
  refine zS_g (by first | decide | omega) ?_ -- 1
  refine zS_g (by first | decide | omega) ?_ -- 2
  have a1 := hS u
  refine zS_g (by unfold r32; omega) ?_ -- 3
  refine zS_i (fun h2 => ?_) (fun h2 => ?_) -- 4: ((B 9 t 9 u) = 0)
  · unfold f_Study_isFaultOfOne_29
    exact zS_s ⟨rfl, rfl, (by first | decide | omega)⟩
  · refine zS_g (by unfold r32; omega) ?_ -- 7
    refine zS_i (fun h3 => ?_) (fun h3 => ?_) -- 8: ((B 9 t 6 u) = (-1))
    · unfold f_Study_isFaultOfOne_29
      exact zS_s ⟨rfl, rfl, (by first | decide | omega)⟩
    · refine zS_g (by unfold r32; omega) ?_ -- 11
      refine zS_i (fun h4 => ?_) (fun h4 => ?_) -- 12: ((B 9 t 8 u) = (-1))
      · unfold f_Study_isFaultOfOne_29
        exact zS_s ⟨rfl, rfl, (by first | decide | omega)⟩
      · refine zS_g (by unfold r32; omega) ?_ -- 15
        refine zS_g (by unfold r32; omega) ?_ -- 16
        refine zS_i (fun h5 => ?_) (fun h5 => ?_) -- 17: (k = 5)
        · have a6 := zabs_b ((B 9 t 5 u) - (B 9 t 7 u))
          refine zS_g (by unfold r32; omega) ?_ -- 18
          refine zS_i (fun h7 => ?_) (fun h7 => ?_) -- 19: ((zabs ((B 9 t 5 u) - (B 9 t 7 u))) ≤ 7)
          · unfold f_Study_isFaultOfOne_64
            refine zS_g (by first | decide | omega) ?_ -- 21
            exact zS_s ⟨rfl, rfl, (by first | decide | omega)⟩
          · unfold f_Study_isFaultOfOne_64
            refine zS_g (by first | decide | omega) ?_ -- 24
            exact zS_s ⟨rfl, rfl, (by first | decide | omega)⟩
        · refine zS_g (by unfold r32; omega) ?_ -- 26
          refine zS_g (by unfold r32; omega) ?_ -- 27
          refine zS_i (fun h8 => ?_) (fun h8 => ?_) -- 28: ((B 9 t 5 u) ≤ (B 9 t 7 u))
          · have a9 := zabs_b ((B 9 t 5 u) - (B 9 t 7 u))
            unfold f_Study_isFaultOfOne_109
            refine zS_g (by unfold r32; omega) ?_ -- 30
            refine zS_i (fun h10 => ?_) (fun h10 => ?_) -- 31: ((zabs ((B 9 t 5 u) - (B 9 t 7 u))) = 0)
            · refine zS_g (by unfold r32; omega) ?_ -- 32
              have a11 := zabs_b ((B 9 t 8 u) - (B 9 t 6 u))
              exact s_one125 (by first | decide | omega) (by first | decide | omega) -- 33 f_Study_isFaultOfOne_125
            · exact s_one125 (by first | decide | omega) (by first | decide | omega) -- 34 f_Study_isFaultOfOne_125
          · have a12 := zabs_b ((B 9 t 5 u) - (B 9 t 7 u))
            unfold f_Study_isFaultOfOne_109
            refine zS_g (by unfold r32; omega) ?_ -- 36
            refine zS_i (fun h13 => ?_) (fun h13 => ?_) -- 37: ((zabs ((B 9 t 5 u) - (B 9 t 7 u))) = 0)
            · refine zS_g (by unfold r32; omega) ?_ -- 38
              have a14 := zabs_b ((B 9 t 6 u) - (B 9 t 8 u))
              exact s_one125 (by first | decide | omega) (by first | decide | omega) -- 39 f_Study_isFaultOfOne_125
            · exact s_one125 (by first | decide | omega) (by first | decide | omega) -- 40 f_Study_isFaultOfOne_125
theorem s_two305 {K : zK} {t u x y : Int} {F : zF} {B : zB} (ht : 0 ≤ t ∧ t < K.2 9) (hu : 0 ≤ u ∧ u < 4) (hx : 0 ≤ x ∧ x ≤ 2) (hy : 0 ≤ y ∧ y ≤ 2) (hS : ∀ j, (-1 ≤ B 9 t 5 j ∧ B 9 t 5 j ≤ 200) ∧ (-1 ≤ B 9 t 6 j ∧ B 9 t 6 j ≤ 200) ∧ (-1 ≤ B 9 t 7 j ∧ B 9 t 7 j ≤ 200) ∧ (-1 ≤ B 9 t 8 j ∧ B 9 t 8 j ≤ 200) ∧ (0 ≤ B 9 t 9 j ∧ B 9 t 9 j ≤ 1) ∧ r32 (B 9 t 10 j)) : zS (f_Study_isFaultOfTwo_305 K x y t u F B) (fun r F' B' => F' = F ∧ B' = B ∧ (r = 0 ∨ r = 1)) := by
  unfold f_Study_isFaultOfTwo_305
  refine zS_g (by unfold r32; omega) ?_ -- 1
  refine zS_i (fun h1 => ?_) (fun h1 => ?_) -- 2: (y = 0)
  · unfold f_Study_isFaultOfTwo_345
    unfold f_Study_isFaultOfTwo_346
    refine zS_g (by first | decide | omega) ?_ -- 5
    exact zS_s ⟨rfl, rfl, (by first | decide | omega)⟩
  · refine zS_g (by unfold r32; omega) ?_ -- 7
    refine zS_i (fun h2 => ?_) (fun h2 => ?_) -- 8: (y = x)
    · unfold f_Study_isFaultOfTwo_345
      unfold f_Study_isFaultOfTwo_346
      refine zS_g (by first | decide | omega) ?_ -- 11
      exact zS_s ⟨rfl, rfl, (by first | decide | omega)⟩
    · refine zS_g (by first | decide | omega) ?_ -- 13
      refine zS_g (by first | decide | omega) ?_ -- 14
      have a3 := hS u
      refine zS_g (by unfold r32; omega) ?_ -- 15
      have a4 := zabs_b ((B 9 t 5 u) - (B 9 t 7 u))
      refine zS_g (by unfold r32; omega) ?_ -- 16
      refine zS_i (fun h5 => ?_) (fun h5 => ?_) -- 17: ((zabs ((B 9 t 5 u) - (B 9 t 7 u))) ≤ 2)
      · unfold f_Study_isFaultOfTwo_345
        unfold f_Study_isFaultOfTwo_346
        refine zS_g (by first | decide | omega) ?_ -- 20
        exact zS_s ⟨rfl, rfl, (by first | decide | omega)⟩
      · unfold f_Study_isFaultOfTwo_346
        refine zS_g (by first | decide | omega) ?_ -- 23
        exact zS_s ⟨rfl, rfl, (by first | decide | omega)⟩
theorem s_two204 {K : zK} {t k u v : Int} {F : zF} {B : zB} (ht : 0 ≤ t ∧ t < K.2 9) (hu : 0 ≤ u ∧ u < 4) (hv : 0 ≤ v ∧ v < 4) (hk : r32 k) (hS : ∀ j, (-1 ≤ B 9 t 5 j ∧ B 9 t 5 j ≤ 200) ∧ (-1 ≤ B 9 t 6 j ∧ B 9 t 6 j ≤ 200) ∧ (-1 ≤ B 9 t 7 j ∧ B 9 t 7 j ≤ 200) ∧ (-1 ≤ B 9 t 8 j ∧ B 9 t 8 j ≤ 200) ∧ (0 ≤ B 9 t 9 j ∧ B 9 t 9 j ≤ 1) ∧ r32 (B 9 t 10 j)) : zS (f_Study_isFaultOfTwo_204 K t k u v F B) (fun r F' B' => F' = F ∧ B' = B ∧ (r = 0 ∨ r = 1)) := by
  unfold f_Study_isFaultOfTwo_204
  refine zS_g (by first | decide | omega) ?_ -- 1
  refine zS_g (by first | decide | omega) ?_ -- 2
  refine zS_g (by first | decide | omega) ?_ -- 3
  have a1 := hS u
  have a2 := hS v
  refine zS_b (s_cons (K := K) (by first | decide | omega) (by first | decide | omega) (by first | decide | omega) (by first | decide | omega)) ?_
  rintro o4 F B ⟨rfl, rfl, q3⟩
  refine zS_b (s_cons (K := K) (by first | decide | omega) (by first | decide | omega) (by first | decide | omega) (by first | decide | omega)) ?_
  rintro o7 F B ⟨rfl, rfl, q6⟩
  refine zS_g (by unfold r32; omega) ?_ -- 6
  refine zS_i (fun h9 => ?_) (fun h9 => ?_) -- 7: (3 ≤ k)
  · refine zS_g (by unfold r32; omega) ?_ -- 8
    refine zS_g (by unfold r32; omega) ?_ -- 9
    refine zS_i (fun h10 => ?_) (fun h10 => ?_) -- 10: ((B 9 t 6 v) ≤ (B 9 t 6 u))
    · exact s_two305 ht (by first | decide | omega) (by first | decide | omega) (by first | decide | omega) hS -- 11 f_Study_isFaultOfTwo_305
    · exact s_two305 ht (by first | decide | omega) (by first | decide | omega) (by first | decide | omega) hS -- 12 f_Study_isFaultOfTwo_305
  · refine zS_g (by unfold r32; omega) ?_ -- 13
    refine zS_i (fun h11 => ?_) (fun h11 => ?_) -- 14: (o4 = k)
    · refine zS_g (by unfold r32; omega) ?_ -- 15
      refine zS_i (fun h12 => ?_) (fun h12 => ?_) -- 16: (o7 = k)
      · unfold f_Study_isFaultOfTwo_284
        refine zS_g (by first | decide | omega) ?_ -- 18
        exact zS_s ⟨rfl, rfl, (by first | decide | omega)⟩
      · unfold f_Study_isFaultOfTwo_283
        unfold f_Study_isFaultOfTwo_284
        refine zS_g (by first | decide | omega) ?_ -- 22
        exact zS_s ⟨rfl, rfl, (by first | decide | omega)⟩
    · unfold f_Study_isFaultOfTwo_283
      unfold f_Study_isFaultOfTwo_284
      refine zS_g (by first | decide | omega) ?_ -- 26
      exact zS_s ⟨rfl, rfl, (by first | decide | omega)⟩
theorem s_two167 {K : zK} {t k u v : Int} {F : zF} {B : zB} (ht : 0 ≤ t ∧ t < K.2 9) (hu : 0 ≤ u ∧ u < 4) (hv : 0 ≤ v ∧ v < 4) (hk : r32 k) (hS : ∀ j, (-1 ≤ B 9 t 5 j ∧ B 9 t 5 j ≤ 200) ∧ (-1 ≤ B 9 t 6 j ∧ B 9 t 6 j ≤ 200) ∧ (-1 ≤ B 9 t 7 j ∧ B 9 t 7 j ≤ 200) ∧ (-1 ≤ B 9 t 8 j ∧ B 9 t 8 j ≤ 200) ∧ (0 ≤ B 9 t 9 j ∧ B 9 t 9 j ≤ 1) ∧ r32 (B 9 t 10 j)) {x y s : Int} (hx : 0 ≤ x ∧ x ≤ 1) (hy : 0 ≤ y ∧ y ≤ 1) (hs : 0 ≤ s ∧ s ≤ 1) : zS (f_Study_isFaultOfTwo_167 K x y t k u v s F B) (fun r F' B' => F' = F ∧ B' = B ∧ (r = 0 ∨ r = 1)) := by
  unfold f_Study_isFaultOfTwo_167
  refine zS_g (by unfold r32; omega) ?_ -- 1
  refine zS_i (fun h1 => ?_) (fun h1 => ?_) -- 2: (y = 0)
  · unfold f_Study_isFaultOfTwo_202
    exact zS_s ⟨rfl, rfl, (by first | decide | omega)⟩
  · refine zS_g (by first | decide | omega) ?_ -- 5
    refine zS_g (by first | decide | omega) ?_ -- 6
    have a2 := hS u
    refine zS_g (by unfold r32; omega) ?_ -- 7
    refine zS_i (fun h3 => ?_) (fun h3 => ?_) -- 8: ((B 9 t 9 u) = 0)
    · unfold f_Study_isFaultOfTwo_202
      exact zS_s ⟨rfl, rfl, (by first | decide | omega)⟩
    · refine zS_g (by first | decide | omega) ?_ -- 11
      have a4 := hS v
      refine zS_g (by unfold r32; omega) ?_ -- 12
      refine zS_i (fun h5 => ?_) (fun h5 => ?_) -- 13: ((B 9 t 9 v) = 0)
      · unfold f_Study_isFaultOfTwo_202
        exact zS_s ⟨rfl, rfl, (by first | decide | omega)⟩
      · refine zS_g (by unfold r32; omega) ?_ -- 16
        refine zS_i (fun h6 => ?_) (fun h6 => ?_) -- 17: (x = 0)
        · refine zS_g (by unfold r32; omega) ?_ -- 18
          refine zS_i (fun h7 => ?_) (fun h7 => ?_) -- 19: (s = 0)
          · unfold f_Study_isFaultOfTwo_202
            exact zS_s ⟨rfl, rfl, (by first | decide | omega)⟩
          · exact s_two204 ht hu hv hk hS -- 22 f_Study_isFaultOfTwo_204
        · exact s_two204 ht hu hv hk hS -- 23 f_Study_isFaultOfTwo_204
theorem s_two130 {K : zK} {t k u v : Int} {F : zF} {B : zB} (ht : 0 ≤ t ∧ t < K.2 9) (hu : 0 ≤ u ∧ u < 4) (hv : 0 ≤ v ∧ v < 4) (hk : r32 k) (hS : ∀ j, (-1 ≤ B 9 t 5 j ∧ B 9 t 5 j ≤ 200) ∧ (-1 ≤ B 9 t 6 j ∧ B 9 t 6 j ≤ 200) ∧ (-1 ≤ B 9 t 7 j ∧ B 9 t 7 j ≤ 200) ∧ (-1 ≤ B 9 t 8 j ∧ B 9 t 8 j ≤ 200) ∧ (0 ≤ B 9 t 9 j ∧ B 9 t 9 j ≤ 1) ∧ r32 (B 9 t 10 j)) {y s : Int} (hy : 0 ≤ y ∧ y ≤ 1) (hs : 0 ≤ s ∧ s ≤ 1) : zS (f_Study_isFaultOfTwo_130 K y t k u v s F B) (fun r F' B' => F' = F ∧ B' = B ∧ (r = 0 ∨ r = 1)) := by
  unfold f_Study_isFaultOfTwo_130
  refine zS_g (by first | decide | omega) ?_ -- 1
  refine zS_g (by first | decide | omega) ?_ -- 2
  have a1 := hS u
  refine zS_g (by unfold r32; omega) ?_ -- 3
  refine zS_g (by unfold r32; omega) ?_ -- 4
  refine zS_i (fun h2 => ?_) (fun h2 => ?_) -- 5: ((B 9 t 8 u) ≤ (B 9 t 6 u))
  · unfold f_Study_isFaultOfTwo_166
    exact s_two167 ht hu hv hk hS (by first | decide | omega) (by first | decide | omega) (by first | decide | omega) -- 7 f_Study_isFaultOfTwo_167
  · refine zS_g (by first | decide | omega) ?_ -- 8
    have a3 := hS v
    refine zS_g (by unfold r32; omega) ?_ -- 9
    refine zS_g (by unfold r32; omega) ?_ -- 10
    refine zS_i (fun h4 => ?_) (fun h4 => ?_) -- 11: ((B 9 t 8 v) ≤ (B 9 t 6 v))
    · unfold f_Study_isFaultOfTwo_166
      exact s_two167 ht hu hv hk hS (by first | decide | omega) (by first | decide | omega) (by first | decide | omega) -- 13 f_Study_isFaultOfTwo_167
    · exact s_two167 ht hu hv hk hS (by first | decide | omega) (by first | decide | omega) (by first | decide | omega) -- 14 f_Study_isFaultOfTwo_167
theorem s_two47 {K : zK} {t k u v : Int} {F : zF} {B : zB} (ht : 0 ≤ t ∧ t < K.2 9) (hu : 0 ≤ u ∧ u < 4) (hv : 0 ≤ v ∧ v < 4) (hk : r32 k) (hS : ∀ j, (-1 ≤ B 9 t 5 j ∧ B 9 t 5 j ≤ 200) ∧ (-1 ≤ B 9 t 6 j ∧ B 9 t 6 j ≤ 200) ∧ (-1 ≤ B 9 t 7 j ∧ B 9 t 7 j ≤ 200) ∧ (-1 ≤ B 9 t 8 j ∧ B 9 t 8 j ≤ 200) ∧ (0 ≤ B 9 t 9 j ∧ B 9 t 9 j ≤ 1) ∧ r32 (B 9 t 10 j)) {s : Int} (hs : 0 ≤ s ∧ s ≤ 1) : zS (f_Study_isFaultOfTwo_47 K t k u v s F B) (fun r F' B' => F' = F ∧ B' = B ∧ (r = 0 ∨ r = 1)) := by
  unfold f_Study_isFaultOfTwo_47
  refine zS_g (by unfold r32; omega) ?_ -- 1
  refine zS_i (fun h1 => ?_) (fun h1 => ?_) -- 2: (k = 4)
  · refine zS_g (by first | decide | omega) ?_ -- 3
    refine zS_g (by first | decide | omega) ?_ -- 4
    refine zS_g (by first | decide | omega) ?_ -- 5
    have a2 := hS v
    refine zS_g (by unfold r32; omega) ?_ -- 6
    have a3 := hS u
    refine zS_g (by unfold r32; omega) ?_ -- 7
    refine zS_i (fun h4 => ?_) (fun h4 => ?_) -- 8: ((B 9 t 6 v) ≤ (B 9 t 6 u))
    · unfold f_Study_isFaultOfTwo_93
      unfold f_Study_isFaultOfTwo_94
      refine zS_g (by first | decide | omega) ?_ -- 11
      exact zS_s ⟨rfl, rfl, (by first | decide | omega)⟩
    · refine zS_g (by unfold r32; omega) ?_ -- 13
      refine zS_i (fun h5 => ?_) (fun h5 => ?_) -- 14: (s = 0)
      · unfold f_Study_isFaultOfTwo_89
        unfold f_Study_isFaultOfTwo_94
        refine zS_g (by first | decide | omega) ?_ -- 17
        exact zS_s ⟨rfl, rfl, (by first | decide | omega)⟩
      · refine zS_g (by unfold r32; omega) ?_ -- 19
        refine zS_g (by unfold r32; omega) ?_ -- 20
        refine zS_i (fun h6 => ?_) (fun h6 => ?_) -- 21: ((B 9 t 8 u) < (B 9 t 8 v))
        · unfold f_Study_isFaultOfTwo_93
          unfold f_Study_isFaultOfTwo_94
          refine zS_g (by first | decide | omega) ?_ -- 24
          exact zS_s ⟨rfl, rfl, (by first | decide | omega)⟩
        · unfold f_Study_isFaultOfTwo_89
          unfold f_Study_isFaultOfTwo_94
          refine zS_g (by first | decide | omega) ?_ -- 28
          exact zS_s ⟨rfl, rfl, (by first | decide | omega)⟩
  · refine zS_g (by first | decide | omega) ?_ -- 30
    refine zS_g (by first | decide | omega) ?_ -- 31
    have a7 := hS u
    refine zS_g (by unfold r32; omega) ?_ -- 32
    refine zS_g (by unfold r32; omega) ?_ -- 33
    refine zS_i (fun h8 => ?_) (fun h8 => ?_) -- 34: ((B 9 t 6 u) ≤ (B 9 t 8 u))
    · unfold f_Study_isFaultOfTwo_129
      exact s_two130 ht hu hv hk hS (by first | decide | omega) (by first | decide | omega) -- 36 f_Study_isFaultOfTwo_130
    · refine zS_g (by first | decide | omega) ?_ -- 37
      have a9 := hS v
      refine zS_g (by unfold r32; omega) ?_ -- 38
      refine zS_g (by unfold r32; omega) ?_ -- 39
      refine zS_i (fun h10 => ?_) (fun h10 => ?_) -- 40: ((B 9 t 6 v) ≤ (B 9 t 8 v))
      · unfold f_Study_isFaultOfTwo_129
        exact s_two130 ht hu hv hk hS (by first | decide | omega) (by first | decide | omega) -- 42 f_Study_isFaultOfTwo_130
      · exact s_two130 ht hu hv hk hS (by first | decide | omega) (by first | decide | omega) -- 43 f_Study_isFaultOfTwo_130
theorem s_two {K : zK} {t k u v : Int} {F : zF} {B : zB} (ht : 0 ≤ t ∧ t < K.2 9) (hu : 0 ≤ u ∧ u < 4) (hv : 0 ≤ v ∧ v < 4) (hk : r32 k) (hS : ∀ j, (-1 ≤ B 9 t 5 j ∧ B 9 t 5 j ≤ 200) ∧ (-1 ≤ B 9 t 6 j ∧ B 9 t 6 j ≤ 200) ∧ (-1 ≤ B 9 t 7 j ∧ B 9 t 7 j ≤ 200) ∧ (-1 ≤ B 9 t 8 j ∧ B 9 t 8 j ≤ 200) ∧ (0 ≤ B 9 t 9 j ∧ B 9 t 9 j ≤ 1) ∧ r32 (B 9 t 10 j)) : zS (f_Study_isFaultOfTwo K t k u v F B) (fun r F' B' => F' = F ∧ B' = B ∧ (r = 0 ∨ r = 1)) := by
  unfold f_Study_isFaultOfTwo
  refine zS_g (by first | decide | omega) ?_ -- 1
  refine zS_g (by first | decide | omega) ?_ -- 2
  have a1 := hS u
  refine zS_g (by unfold r32; omega) ?_ -- 3
  refine zS_i (fun h2 => ?_) (fun h2 => ?_) -- 4: ((B 9 t 6 u) = (-1))
  · unfold f_Study_isFaultOfTwo_20
    exact zS_s ⟨rfl, rfl, (by first | decide | omega)⟩
  · refine zS_g (by first | decide | omega) ?_ -- 7
    have a3 := hS v
    refine zS_g (by unfold r32; omega) ?_ -- 8
    refine zS_i (fun h4 => ?_) (fun h4 => ?_) -- 9: ((B 9 t 6 v) = (-1))
    · unfold f_Study_isFaultOfTwo_20
      exact zS_s ⟨rfl, rfl, (by first | decide | omega)⟩
    · refine zS_g (by unfold r32; omega) ?_ -- 12
      refine zS_i (fun h5 => ?_) (fun h5 => ?_) -- 13: ((B 9 t 8 u) = (-1))
      · unfold f_Study_isFaultOfTwo_46
        exact s_two47 ht hu hv hk hS (by first | decide | omega) -- 15 f_Study_isFaultOfTwo_47
      · refine zS_g (by unfold r32; omega) ?_ -- 16
        refine zS_i (fun h6 => ?_) (fun h6 => ?_) -- 17: ((B 9 t 8 v) = (-1))
        · unfold f_Study_isFaultOfTwo_46
          exact s_two47 ht hu hv hk hS (by first | decide | omega) -- 19 f_Study_isFaultOfTwo_47
        · exact s_two47 ht hu hv hk hS (by first | decide | omega) -- 20 f_Study_isFaultOfTwo_47
end
