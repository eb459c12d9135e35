section
/-! ===== the staves of a read piece, reference: groups ===== -/
theorem s_isCompound {K : Nat} {V w : Int} {F : zF} {B : zB} (hR : RDW V w F B) : zS (f_M_isCompound K w F B) (fun r F' B' => F' = F ∧ B' = B ∧ (r = 0 ∨ r = 1)) := by
  have b0 := rd_0 hR
  unfold f_M_isCompound
  refine zS_g (by first | decide | omega) ?_ -- 1
  refine zS_g (by unfold r32; omega) ?_ -- 2
  refine zS_i (fun h1 => ?_) (fun h1 => ?_) -- 3: ((F 13 w 5) = 8)
  · unfold f_M_isCompound_18
    refine zS_g (by first | decide | omega) ?_ -- 5
    have z2 := zrm_R (F 13 w 4) 3
    refine zS_g (by unfold r32; omega) ?_ -- 6
    refine zS_i (fun h3 => ?_) (fun h3 => ?_) -- 7: ((zrm (F 13 w 4) 3) = 0)
    · unfold f_M_isCompound_32
      refine zS_g (by first | decide | omega) ?_ -- 9
      exact zS_s ⟨rfl, rfl, (by first | decide | omega)⟩
    · unfold f_M_isCompound_31
      unfold f_M_isCompound_32
      refine zS_g (by first | decide | omega) ?_ -- 13
      exact zS_s ⟨rfl, rfl, (by first | decide | omega)⟩
  · refine zS_i (fun h4 => ?_) (fun h4 => ?_) -- 15: ((F 13 w 5) = 16)
    · unfold f_M_isCompound_18
      refine zS_g (by first | decide | omega) ?_ -- 17
      have z5 := zrm_R (F 13 w 4) 3
      refine zS_g (by unfold r32; omega) ?_ -- 18
      refine zS_i (fun h6 => ?_) (fun h6 => ?_) -- 19: ((zrm (F 13 w 4) 3) = 0)
      · unfold f_M_isCompound_32
        refine zS_g (by first | decide | omega) ?_ -- 21
        exact zS_s ⟨rfl, rfl, (by first | decide | omega)⟩
      · unfold f_M_isCompound_31
        unfold f_M_isCompound_32
        refine zS_g (by first | decide | omega) ?_ -- 25
        exact zS_s ⟨rfl, rfl, (by first | decide | omega)⟩
    · unfold f_M_isCompound_31
      unfold f_M_isCompound_32
      refine zS_g (by first | decide | omega) ?_ -- 29
      exact zS_s ⟨rfl, rfl, (by first | decide | omega)⟩
theorem s_beat {K : Nat} {V w : Int} {F : zF} {B : zB} (hR : RDW V w F B) : zS (f_M_beat K w F B) (fun r F' B' => F' = F ∧ B' = B ∧ (1 ≤ r ∧ r ≤ 3)) := by
  have b0 := rd_0 hR
  unfold f_M_beat
  refine zS_b (s_isCompound (K := K) hR) ?_
  rintro r2 F B ⟨rfl, rfl, q1⟩
  refine zS_g (by unfold r32; omega) ?_ -- 2
  refine zS_i (fun h4 => ?_) (fun h4 => ?_) -- 3: (r2 = 0)
  · refine zS_g (by first | decide | omega) ?_ -- 4
    refine zS_g (by unfold r32; omega) ?_ -- 5
    refine zS_i (fun h5 => ?_) (fun h5 => ?_) -- 6: ((F 13 w 5) = 2)
    · unfold f_M_beat_27
      unfold f_M_beat_32
      exact zS_s ⟨rfl, rfl, (by first | decide | omega)⟩
    · refine zS_i (fun h6 => ?_) (fun h6 => ?_) -- 10: ((F 13 w 5) = 4)
      · unfold f_M_beat_27
        unfold f_M_beat_32
        exact zS_s ⟨rfl, rfl, (by first | decide | omega)⟩
      · unfold f_M_beat_32
        exact zS_s ⟨rfl, rfl, (by first | decide | omega)⟩
  · unfold f_M_beat_32
    exact zS_s ⟨rfl, rfl, (by first | decide | omega)⟩
theorem s_isBeamed {K : Nat} {V w u : Int} {F : zF} {B : zB} (hR : RDW V w F B) (u0 : 0 ≤ u) (u1 : u < V) {i : Int} (i0 : 0 ≤ i) (i1 : i < B 13 w 13 u) : zS (f_M_isBeamed K w u i F B) (fun r F' B' => F' = F ∧ B' = B ∧ (r = 0 ∨ r = 1)) := by
  have b0 := rd_0 hR
  have bv := rd_v hR u0 u1
  unfold f_M_isBeamed
  refine zS_b (s_sounding (K := K) (i := i) hR u0 u1 (by first | decide | omega) (by first | decide | omega)) ?_
  rintro r2 F B ⟨rfl, rfl, q1⟩
  refine zS_g (by unfold r32; omega) ?_ -- 2
  refine zS_i (fun h4 => ?_) (fun h4 => ?_) -- 3: (r2 < 0)
  · unfold f_M_isBeamed_29
    unfold f_M_isBeamed_30
    refine zS_g (by first | decide | omega) ?_ -- 6
    exact zS_s ⟨rfl, rfl, (by first | decide | omega)⟩
  · refine zS_g (by first | decide | omega) ?_ -- 8
    refine zS_g (by first | decide | omega) ?_ -- 9
    have a5 := rd_n (u := u) (y := ((800 * u) + i)) hR (by first | decide | omega) (by first | decide | omega) (by first | decide | omega) (by first | decide | omega)
    refine zS_g (by unfold r32; omega) ?_ -- 10
    refine zS_i (fun h6 => ?_) (fun h6 => ?_) -- 11: ((B 13 w 34 ((800 * u) + i)) < 3)
    · unfold f_M_isBeamed_29
      unfold f_M_isBeamed_30
      refine zS_g (by first | decide | omega) ?_ -- 14
      exact zS_s ⟨rfl, rfl, (by first | decide | omega)⟩
    · unfold f_M_isBeamed_30
      refine zS_g (by first | decide | omega) ?_ -- 17
      exact zS_s ⟨rfl, rfl, (by first | decide | omega)⟩
theorem s_often {K : Nat} {a b c d p : Int} {F : zF} {B : zB} (p0 : 0 ≤ p) (p1 : p ≤ 1000000000000) (ea : a = nu p) (eb : b = de p) (c0 : 1 ≤ c ∧ c ≤ 12) (hd : d = 2 ∨ d = 4 ∨ d = 8 ∨ d = 16) : zS (f_M_often K a b c d F B) (fun r F' B' => F' = F ∧ B' = B ∧ 0 ≤ r ∧ r ≤ 1000000000000) := by
  obtain ⟨_, _, _, b4, b5⟩ := bar_v c0 hd
  rw [ea, eb, L_oftR (FR_r p0) b5 (by first | decide | omega) (by first | decide | omega) (by first | decide | omega) (by first | decide | omega) b4 (by first | decide | omega)]
  have q0 := Int.ediv_nonneg p0 (show 0 ≤ barV c d by omega)
  have q1 := Int.ediv_le_self (barV c d) p0
  exact zS_s ⟨rfl, rfl, q0, (by first | decide | omega)⟩
theorem s_isTogether {K : Nat} {V w u : Int} {F : zF} {B : zB} (hR : RDW V w F B) (u0 : 0 ≤ u) (u1 : u < V) {i j : Int} (i0 : 0 ≤ i) (i1 : i < B 13 w 13 u) (j0 : 0 ≤ j) (j1 : j < B 13 w 13 u) : zS (f_M_isTogether K w u i j F B) (fun r F' B' => F' = F ∧ B' = B ∧ (r = 0 ∨ r = 1)) := by
  have b0 := rd_0 hR
  have bv := rd_v hR u0 u1
  have bb := (bar_v b0.2.2.2.1 (rd_5 hR)).2.2.1
  unfold f_M_isTogether
  refine zS_b (s_isBeamed (K := K) (i := i) hR u0 u1 (by first | decide | omega) (by first | decide | omega)) ?_
  rintro r2 F B ⟨rfl, rfl, q1⟩
  refine zS_g (by unfold r32; omega) ?_ -- 2
  refine zS_i (fun h4 => ?_) (fun h4 => ?_) -- 3: (r2 = 0)
  · unfold f_M_isTogether_57
    exact zS_s ⟨rfl, rfl, (by first | decide | omega)⟩
  · refine zS_b (s_isBeamed (K := K) (i := j) hR u0 u1 (by first | decide | omega) (by first | decide | omega)) ?_
    rintro r6 F B ⟨rfl, rfl, q5⟩
    refine zS_g (by unfold r32; omega) ?_ -- 7
    refine zS_i (fun h8 => ?_) (fun h8 => ?_) -- 8: (r6 = 0)
    · unfold f_M_isTogether_57
      exact zS_s ⟨rfl, rfl, (by first | decide | omega)⟩
    · refine zS_g (by first | decide | omega) ?_ -- 11
      refine zS_g (by first | decide | omega) ?_ -- 12
      refine zS_g (by first | decide | omega) ?_ -- 13
      have a9 := rd_n (u := u) (y := ((800 * u) + i)) hR (by first | decide | omega) (by first | decide | omega) (by first | decide | omega) (by first | decide | omega)
      refine zS_g (by unfold r32; omega) ?_ -- 14
      have a10 := rd_n (u := u) (y := ((800 * u) + j)) hR (by first | decide | omega) (by first | decide | omega) (by first | decide | omega) (by first | decide | omega)
      refine zS_g (by unfold r32; omega) ?_ -- 15
      refine zS_i (fun h11 => ?_) (fun h11 => ?_) -- 16: ((B 13 w 31 ((800 * u) + i)) = (B 13 w 31 ((800 * u) + j)))
      · refine zS_b (s_beat (K := K) hR) ?_
        rintro r13 F B ⟨rfl, rfl, q12⟩
        refine zS_g (by unfold r32; omega) ?_ -- 18
        refine zS_g (by unfold r32; omega) ?_ -- 19
        obtain ⟨p15, p15a, p15b, p15c⟩ := rd_q (u := u) (y := ((800 * u) + i)) hR (by first | decide | omega) (by first | decide | omega) (by first | decide | omega) (by first | decide | omega)
        refine zS_b (s_often (K := K) (p := p15) (by first | decide | omega) (by first | decide | omega) p15b p15c (by first | decide | omega) (rd_5 hR)) ?_
        rintro r17 F B ⟨rfl, rfl, q16⟩
        refine zS_b (s_beat (K := K) hR) ?_
        rintro r20 F B ⟨rfl, rfl, q19⟩
        refine zS_g (by unfold r32; omega) ?_ -- 22
        refine zS_g (by unfold r32; omega) ?_ -- 23
        obtain ⟨p22, p22a, p22b, p22c⟩ := rd_q (u := u) (y := ((800 * u) + j)) hR (by first | decide | omega) (by first | decide | omega) (by first | decide | omega) (by first | decide | omega)
        refine zS_b (s_often (K := K) (p := p22) (by first | decide | omega) (by first | decide | omega) p22b p22c (by first | decide | omega) (rd_5 hR)) ?_
        rintro r24 F B ⟨rfl, rfl, q23⟩
        refine zS_g (by unfold r64; omega) ?_ -- 25
        refine zS_g (by unfold r64; omega) ?_ -- 26
        refine zS_i (fun h26 => ?_) (fun h26 => ?_) -- 27: ((zcmp r24 r24) = 0)
        · unfold f_M_isTogether_122
          refine zS_g (by first | decide | omega) ?_ -- 29
          exact zS_s ⟨rfl, rfl, (by first | decide | omega)⟩
        · unfold f_M_isTogether_122
          refine zS_g (by first | decide | omega) ?_ -- 32
          exact zS_s ⟨rfl, rfl, (by first | decide | omega)⟩
      · unfold f_M_isTogether_57
        exact zS_s ⟨rfl, rfl, (by first | decide | omega)⟩
theorem s_grp131 {K : Nat} {V w u : Int} {F : zF} {B0 : zB} (hR0 : RDW V w F B0) (u0 : 0 ≤ u) (u1 : u < V) (hK : 1000 ≤ K) {rec : Int → Int → Int → Int → zF → zB → zO} {Q : Int → zF → zB → Prop} {i e l3 : Int} (i0 : 0 ≤ i) (i1 : i < e) (e1 : e ≤ B0 13 w 13 u) (g0 : 0 ≤ l3) (g1 : l3 ≤ i) (hrec : ∀ g B, 0 ≤ g → g ≤ e → SQ w B0 B → zS (rec e g w u F B) Q) {t sm : Int} (t0 : t = 0 ∨ t = 1) (rs : r32 sm) : ∀ (n : Nat) (k : Int) (B : zB), SQ w B0 B → i ≤ k → k ≤ e → e - k < n → zS (f_M_groups_131 rec K n k t sm e l3 w u F B) (Q) := by
  intro n
  induction n with
  | zero => intro k B hq k0 k1 hk; exfalso; omega
  | succ n ih =>
    intro k B hq k0 k1 hk
    have b0 := rd_0 hR0
    have bv := rd_v hR0 u0 u1
    rw [f_M_groups_131]
    refine zS_g (by unfold r32; omega) ?_ -- 1
    refine zS_g (by unfold r32; omega) ?_ -- 2
    refine zS_i (fun h1 => ?_) (fun h1 => ?_) -- 3: (e ≤ k)
    · refine zS_g (by unfold r32; omega) ?_ -- 4
      refine zS_i (fun h2 => ?_) (fun h2 => ?_) -- 5: (t = 0)
      · unfold f_M_groups_292
        exact hrec _ _ (by first | decide | omega) (by first | decide | omega) hq -- 7 rec
      · unfold f_M_groups_292
        exact hrec _ _ (by first | decide | omega) (by first | decide | omega) hq -- 9 rec
    · refine zS_g (by first | decide | omega) ?_ -- 10
      refine zS_g (by unfold r32; omega) ?_ -- 11
      refine zS_i (fun h3 => ?_) (fun h3 => ?_) -- 12: (t = 0)
      · unfold f_M_groups_164
        refine zS_g (by first | decide | omega) ?_ -- 14
        refine zS_g (by first | decide | omega) ?_ -- 15
        refine zS_g (by first | decide | omega) ?_ -- 16
        refine zS_g (by unfold r32; omega) ?_ -- 17
        refine zS_g (by unfold r32; omega) ?_ -- 18
        refine zS_i (fun h4 => ?_) (fun h4 => ?_) -- 19: (e ≤ (k + 1))
        · unfold f_M_groups_224
          refine zS_g (by first | decide | omega) ?_ -- 21
          refine zS_g (by first | decide | omega) ?_ -- 22
          refine zS_b (s_sounding (K := K) (i := k) (RDW_q hR0 (SQ_u (k := 40) (j := ((800 * u) + k)) (v := 0) (SQ_u (k := 39) (j := ((800 * u) + k)) (v := (-1)) hq (by decide) (by decide) (by decide)) (by decide) (by decide) (by decide))) u0 u1 (by first | decide | omega) (by have := (SQ_u (k := 40) (j := ((800 * u) + k)) (v := 0) (SQ_u (k := 39) (j := ((800 * u) + k)) (v := (-1)) hq (by decide) (by decide) (by decide)) (by decide) (by decide) (by decide)).2 13 w 13 u (by first | decide | omega) (by first | decide | omega); omega)) ?_
          rintro r6 F _ ⟨rfl, rfl, q5⟩
          have lkar6 := (SQ_u (k := 40) (j := ((800 * u) + k)) (v := 0) (SQ_u (k := 39) (j := ((800 * u) + k)) (v := (-1)) hq (by decide) (by decide) (by decide)) (by decide) (by decide) (by decide)).2 13 w 12 u (by first | decide | omega) (by first | decide | omega)
          have lkbr6 := (SQ_u (k := 40) (j := ((800 * u) + k)) (v := 0) (SQ_u (k := 39) (j := ((800 * u) + k)) (v := (-1)) hq (by decide) (by decide) (by decide)) (by decide) (by decide) (by decide)).2 13 w 21 r6 (by first | decide | omega) (by first | decide | omega)
          refine zS_g (by unfold r32; omega) ?_ -- 24
          refine zS_i (fun h8 => ?_) (fun h8 => ?_) -- 25: (r6 < 0)
          · unfold f_M_groups_249
            unfold f_M_groups_250
            refine zS_g (by first | decide | omega) ?_ -- 28
            refine zS_g (by unfold r32; omega) ?_ -- 29
            refine zS_i (fun h9 => ?_) (fun h9 => ?_) -- 30: (0 = 0)
            · unfold f_M_groups_277
              refine zS_g (by first | decide | omega) ?_ -- 32
              refine zS_g (by first | decide | omega) ?_ -- 33
              exact ih (k + 1) _ (SQ_u (k := 41) (j := ((800 * u) + k)) (v := 0) (SQ_u (k := 40) (j := ((800 * u) + k)) (v := 0) (SQ_u (k := 39) (j := ((800 * u) + k)) (v := (-1)) hq (by decide) (by decide) (by decide)) (by decide) (by decide) (by decide)) (by decide) (by decide) (by decide)) (by first | decide | omega) (by first | decide | omega) (by first | decide | omega) -- 34 f_M_groups_131
            · refine zS_g (by unfold r32; omega) ?_ -- 35
              refine zS_i (fun h10 => ?_) (fun h10 => ?_) -- 36: (0 ≤ sm)
              · unfold f_M_groups_277
                refine zS_g (by first | decide | omega) ?_ -- 38
                refine zS_g (by first | decide | omega) ?_ -- 39
                exact ih (k + 1) _ (SQ_u (k := 41) (j := ((800 * u) + k)) (v := 2) (SQ_u (k := 40) (j := ((800 * u) + k)) (v := 0) (SQ_u (k := 39) (j := ((800 * u) + k)) (v := (-1)) hq (by decide) (by decide) (by decide)) (by decide) (by decide) (by decide)) (by decide) (by decide) (by decide)) (by first | decide | omega) (by first | decide | omega) (by first | decide | omega) -- 40 f_M_groups_131
              · unfold f_M_groups_277
                refine zS_g (by first | decide | omega) ?_ -- 42
                refine zS_g (by first | decide | omega) ?_ -- 43
                exact ih (k + 1) _ (SQ_u (k := 41) (j := ((800 * u) + k)) (v := 1) (SQ_u (k := 40) (j := ((800 * u) + k)) (v := 0) (SQ_u (k := 39) (j := ((800 * u) + k)) (v := (-1)) hq (by decide) (by decide) (by decide)) (by decide) (by decide) (by decide)) (by decide) (by decide) (by decide)) (by first | decide | omega) (by first | decide | omega) (by first | decide | omega) -- 44 f_M_groups_131
          · refine zS_g (by first | decide | omega) ?_ -- 45
            refine zS_g (by first | decide | omega) ?_ -- 46
            have a11 := (SQ_u (k := 40) (j := ((800 * u) + k)) (v := 0) (SQ_u (k := 39) (j := ((800 * u) + k)) (v := (-1)) hq (by decide) (by decide) (by decide)) (by decide) (by decide) (by decide)).2 13 w 34 ((800 * u) + k) (by first | decide | omega) (by first | decide | omega)
            have a12 := rd_n (u := u) (y := ((800 * u) + k)) hR0 (by first | decide | omega) (by first | decide | omega) (by first | decide | omega) (by first | decide | omega)
            refine zS_g (by unfold r32; omega) ?_ -- 47
            refine zS_i (fun h13 => ?_) (fun h13 => ?_) -- 48: (((zup4 (zup4 B 13 w 39 ((800 * u) + k) (-1)) 13 w 40 ((800 * u) + k) 0) 13 w 34 ((800 * u) + k)) ≤ 
            · unfold f_M_groups_249
              unfold f_M_groups_250
              refine zS_g (by first | decide | omega) ?_ -- 51
              refine zS_g (by unfold r32; omega) ?_ -- 52
              refine zS_i (fun h14 => ?_) (fun h14 => ?_) -- 53: (0 = 0)
              · unfold f_M_groups_277
                refine zS_g (by first | decide | omega) ?_ -- 55
                refine zS_g (by first | decide | omega) ?_ -- 56
                exact ih (k + 1) _ (SQ_u (k := 41) (j := ((800 * u) + k)) (v := 0) (SQ_u (k := 40) (j := ((800 * u) + k)) (v := 0) (SQ_u (k := 39) (j := ((800 * u) + k)) (v := (-1)) hq (by decide) (by decide) (by decide)) (by decide) (by decide) (by decide)) (by decide) (by decide) (by decide)) (by first | decide | omega) (by first | decide | omega) (by first | decide | omega) -- 57 f_M_groups_131
              · refine zS_g (by unfold r32; omega) ?_ -- 58
                refine zS_i (fun h15 => ?_) (fun h15 => ?_) -- 59: (0 ≤ sm)
                · unfold f_M_groups_277
                  refine zS_g (by first | decide | omega) ?_ -- 61
                  refine zS_g (by first | decide | omega) ?_ -- 62
                  exact ih (k + 1) _ (SQ_u (k := 41) (j := ((800 * u) + k)) (v := 2) (SQ_u (k := 40) (j := ((800 * u) + k)) (v := 0) (SQ_u (k := 39) (j := ((800 * u) + k)) (v := (-1)) hq (by decide) (by decide) (by decide)) (by decide) (by decide) (by decide)) (by decide) (by decide) (by decide)) (by first | decide | omega) (by first | decide | omega) (by first | decide | omega) -- 63 f_M_groups_131
                · unfold f_M_groups_277
                  refine zS_g (by first | decide | omega) ?_ -- 65
                  refine zS_g (by first | decide | omega) ?_ -- 66
                  exact ih (k + 1) _ (SQ_u (k := 41) (j := ((800 * u) + k)) (v := 1) (SQ_u (k := 40) (j := ((800 * u) + k)) (v := 0) (SQ_u (k := 39) (j := ((800 * u) + k)) (v := (-1)) hq (by decide) (by decide) (by decide)) (by decide) (by decide) (by decide)) (by decide) (by decide) (by decide)) (by first | decide | omega) (by first | decide | omega) (by first | decide | omega) -- 67 f_M_groups_131
            · unfold f_M_groups_250
              refine zS_g (by first | decide | omega) ?_ -- 69
              refine zS_g (by unfold r32; omega) ?_ -- 70
              refine zS_i (fun h16 => ?_) (fun h16 => ?_) -- 71: (1 = 0)
              · unfold f_M_groups_277
                refine zS_g (by first | decide | omega) ?_ -- 73
                refine zS_g (by first | decide | omega) ?_ -- 74
                exact ih (k + 1) _ (SQ_u (k := 41) (j := ((800 * u) + k)) (v := 0) (SQ_u (k := 40) (j := ((800 * u) + k)) (v := 0) (SQ_u (k := 39) (j := ((800 * u) + k)) (v := (-1)) hq (by decide) (by decide) (by decide)) (by decide) (by decide) (by decide)) (by decide) (by decide) (by decide)) (by first | decide | omega) (by first | decide | omega) (by first | decide | omega) -- 75 f_M_groups_131
              · refine zS_g (by unfold r32; omega) ?_ -- 76
                refine zS_i (fun h17 => ?_) (fun h17 => ?_) -- 77: (0 ≤ sm)
                · unfold f_M_groups_277
                  refine zS_g (by first | decide | omega) ?_ -- 79
                  refine zS_g (by first | decide | omega) ?_ -- 80
                  exact ih (k + 1) _ (SQ_u (k := 41) (j := ((800 * u) + k)) (v := 2) (SQ_u (k := 40) (j := ((800 * u) + k)) (v := 0) (SQ_u (k := 39) (j := ((800 * u) + k)) (v := (-1)) hq (by decide) (by decide) (by decide)) (by decide) (by decide) (by decide)) (by decide) (by decide) (by decide)) (by first | decide | omega) (by first | decide | omega) (by first | decide | omega) -- 81 f_M_groups_131
                · unfold f_M_groups_277
                  refine zS_g (by first | decide | omega) ?_ -- 83
                  refine zS_g (by first | decide | omega) ?_ -- 84
                  exact ih (k + 1) _ (SQ_u (k := 41) (j := ((800 * u) + k)) (v := 1) (SQ_u (k := 40) (j := ((800 * u) + k)) (v := 0) (SQ_u (k := 39) (j := ((800 * u) + k)) (v := (-1)) hq (by decide) (by decide) (by decide)) (by decide) (by decide) (by decide)) (by decide) (by decide) (by decide)) (by first | decide | omega) (by first | decide | omega) (by first | decide | omega) -- 85 f_M_groups_131
        · refine zS_g (by first | decide | omega) ?_ -- 86
          refine zS_g (by first | decide | omega) ?_ -- 87
          have a18 := (SQ_u (k := 39) (j := ((800 * u) + k)) (v := (-1)) hq (by decide) (by decide) (by decide)).2 13 w 34 ((800 * u) + k) (by first | decide | omega) (by first | decide | omega)
          have a19 := rd_n (u := u) (y := ((800 * u) + k)) hR0 (by first | decide | omega) (by first | decide | omega) (by first | decide | omega) (by first | decide | omega)
          refine zS_g (by unfold r32; omega) ?_ -- 88
          have a20 := (SQ_u (k := 39) (j := ((800 * u) + k)) (v := (-1)) hq (by decide) (by decide) (by decide)).2 13 w 34 (((800 * u) + k) + 1) (by first | decide | omega) (by first | decide | omega)
          have a21 := rd_n (u := u) (y := (((800 * u) + k) + 1)) hR0 (by first | decide | omega) (by first | decide | omega) (by first | decide | omega) (by first | decide | omega)
          refine zS_g (by unfold r32; omega) ?_ -- 89
          refine zS_i (fun h22 => ?_) (fun h22 => ?_) -- 90: (((zup4 B 13 w 39 ((800 * u) + k) (-1)) 13 w 34 (((800 * u) + k) + 1)) ≤ ((zup4 B 13 w 39 ((800 * u)
          · unfold f_M_groups_218
            unfold f_M_groups_224
            refine zS_g (by first | decide | omega) ?_ -- 93
            refine zS_g (by first | decide | omega) ?_ -- 94
            refine zS_b (s_sounding (K := K) (i := k) (RDW_q hR0 (SQ_u (k := 40) (j := ((800 * u) + k)) (v := (((zup4 B 13 w 39 ((800 * u) + k) (-1)) 13 w 34 (((800 * u) + k) + 1)) - 2)) (SQ_u (k := 39) (j := ((800 * u) + k)) (v := (-1)) hq (by decide) (by decide) (by decide)) (by decide) (by decide) (by unfold r32; omega))) u0 u1 (by first | decide | omega) (by have := (SQ_u (k := 40) (j := ((800 * u) + k)) (v := (((zup4 B 13 w 39 ((800 * u) + k) (-1)) 13 w 34 (((800 * u) + k) + 1)) - 2)) (SQ_u (k := 39) (j := ((800 * u) + k)) (v := (-1)) hq (by decide) (by decide) (by decide)) (by decide) (by decide) (by unfold r32; omega)).2 13 w 13 u (by first | decide | omega) (by first | decide | omega); omega)) ?_
            rintro r24 F _ ⟨rfl, rfl, q23⟩
            have lkar24 := (SQ_u (k := 40) (j := ((800 * u) + k)) (v := (((zup4 B 13 w 39 ((800 * u) + k) (-1)) 13 w 34 (((800 * u) + k) + 1)) - 2)) (SQ_u (k := 39) (j := ((800 * u) + k)) (v := (-1)) hq (by decide) (by decide) (by decide)) (by decide) (by decide) (by unfold r32; omega)).2 13 w 12 u (by first | decide | omega) (by first | decide | omega)
            have lkbr24 := (SQ_u (k := 40) (j := ((800 * u) + k)) (v := (((zup4 B 13 w 39 ((800 * u) + k) (-1)) 13 w 34 (((800 * u) + k) + 1)) - 2)) (SQ_u (k := 39) (j := ((800 * u) + k)) (v := (-1)) hq (by decide) (by decide) (by decide)) (by decide) (by decide) (by unfold r32; omega)).2 13 w 21 r24 (by first | decide | omega) (by first | decide | omega)
            refine zS_g (by unfold r32; omega) ?_ -- 96
            refine zS_i (fun h26 => ?_) (fun h26 => ?_) -- 97: (r24 < 0)
            · unfold f_M_groups_249
              unfold f_M_groups_250
              refine zS_g (by first | decide | omega) ?_ -- 100
              refine zS_g (by unfold r32; omega) ?_ -- 101
              refine zS_i (fun h27 => ?_) (fun h27 => ?_) -- 102: (0 = 0)
              · unfold f_M_groups_277
                refine zS_g (by first | decide | omega) ?_ -- 104
                refine zS_g (by first | decide | omega) ?_ -- 105
                exact ih (k + 1) _ (SQ_u (k := 41) (j := ((800 * u) + k)) (v := 0) (SQ_u (k := 40) (j := ((800 * u) + k)) (v := (((zup4 B 13 w 39 ((800 * u) + k) (-1)) 13 w 34 (((800 * u) + k) + 1)) - 2)) (SQ_u (k := 39) (j := ((800 * u) + k)) (v := (-1)) hq (by decide) (by decide) (by decide)) (by decide) (by decide) (by unfold r32; omega)) (by decide) (by decide) (by decide)) (by first | decide | omega) (by first | decide | omega) (by first | decide | omega) -- 106 f_M_groups_131
              · refine zS_g (by unfold r32; omega) ?_ -- 107
                refine zS_i (fun h28 => ?_) (fun h28 => ?_) -- 108: (0 ≤ sm)
                · unfold f_M_groups_277
                  refine zS_g (by first | decide | omega) ?_ -- 110
                  refine zS_g (by first | decide | omega) ?_ -- 111
                  exact ih (k + 1) _ (SQ_u (k := 41) (j := ((800 * u) + k)) (v := 2) (SQ_u (k := 40) (j := ((800 * u) + k)) (v := (((zup4 B 13 w 39 ((800 * u) + k) (-1)) 13 w 34 (((800 * u) + k) + 1)) - 2)) (SQ_u (k := 39) (j := ((800 * u) + k)) (v := (-1)) hq (by decide) (by decide) (by decide)) (by decide) (by decide) (by unfold r32; omega)) (by decide) (by decide) (by decide)) (by first | decide | omega) (by first | decide | omega) (by first | decide | omega) -- 112 f_M_groups_131
                · unfold f_M_groups_277
                  refine zS_g (by first | decide | omega) ?_ -- 114
                  refine zS_g (by first | decide | omega) ?_ -- 115
                  exact ih (k + 1) _ (SQ_u (k := 41) (j := ((800 * u) + k)) (v := 1) (SQ_u (k := 40) (j := ((800 * u) + k)) (v := (((zup4 B 13 w 39 ((800 * u) + k) (-1)) 13 w 34 (((800 * u) + k) + 1)) - 2)) (SQ_u (k := 39) (j := ((800 * u) + k)) (v := (-1)) hq (by decide) (by decide) (by decide)) (by decide) (by decide) (by unfold r32; omega)) (by decide) (by decide) (by decide)) (by first | decide | omega) (by first | decide | omega) (by first | decide | omega) -- 116 f_M_groups_131
            · refine zS_g (by first | decide | omega) ?_ -- 117
              refine zS_g (by first | decide | omega) ?_ -- 118
              have a29 := (SQ_u (k := 40) (j := ((800 * u) + k)) (v := (((zup4 B 13 w 39 ((800 * u) + k) (-1)) 13 w 34 (((800 * u) + k) + 1)) - 2)) (SQ_u (k := 39) (j := ((800 * u) + k)) (v := (-1)) hq (by decide) (by decide) (by decide)) (by decide) (by decide) (by unfold r32; omega)).2 13 w 34 ((800 * u) + k) (by first | decide | omega) (by first | decide | omega)
              refine zS_g (by unfold r32; omega) ?_ -- 119
              refine zS_i (fun h30 => ?_) (fun h30 => ?_) -- 120: (((zup4 (zup4 B 13 w 39 ((800 * u) + k) (-1)) 13 w 40 ((800 * u) + k) (((zup4 B 13 w 39 ((800 * u) +
              · unfold f_M_groups_249
                unfold f_M_groups_250
                refine zS_g (by first | decide | omega) ?_ -- 123
                refine zS_g (by unfold r32; omega) ?_ -- 124
                refine zS_i (fun h31 => ?_) (fun h31 => ?_) -- 125: (0 = 0)
                · unfold f_M_groups_277
                  refine zS_g (by first | decide | omega) ?_ -- 127
                  refine zS_g (by first | decide | omega) ?_ -- 128
                  exact ih (k + 1) _ (SQ_u (k := 41) (j := ((800 * u) + k)) (v := 0) (SQ_u (k := 40) (j := ((800 * u) + k)) (v := (((zup4 B 13 w 39 ((800 * u) + k) (-1)) 13 w 34 (((800 * u) + k) + 1)) - 2)) (SQ_u (k := 39) (j := ((800 * u) + k)) (v := (-1)) hq (by decide) (by decide) (by decide)) (by decide) (by decide) (by unfold r32; omega)) (by decide) (by decide) (by decide)) (by first | decide | omega) (by first | decide | omega) (by first | decide | omega) -- 129 f_M_groups_131
                · refine zS_g (by unfold r32; omega) ?_ -- 130
                  refine zS_i (fun h32 => ?_) (fun h32 => ?_) -- 131: (0 ≤ sm)
                  · unfold f_M_groups_277
                    refine zS_g (by first | decide | omega) ?_ -- 133
                    refine zS_g (by first | decide | omega) ?_ -- 134
                    exact ih (k + 1) _ (SQ_u (k := 41) (j := ((800 * u) + k)) (v := 2) (SQ_u (k := 40) (j := ((800 * u) + k)) (v := (((zup4 B 13 w 39 ((800 * u) + k) (-1)) 13 w 34 (((800 * u) + k) + 1)) - 2)) (SQ_u (k := 39) (j := ((800 * u) + k)) (v := (-1)) hq (by decide) (by decide) (by decide)) (by decide) (by decide) (by unfold r32; omega)) (by decide) (by decide) (by decide)) (by first | decide | omega) (by first | decide | omega) (by first | decide | omega) -- 135 f_M_groups_131
                  · unfold f_M_groups_277
                    refine zS_g (by first | decide | omega) ?_ -- 137
                    refine zS_g (by first | decide | omega) ?_ -- 138
                    exact ih (k + 1) _ (SQ_u (k := 41) (j := ((800 * u) + k)) (v := 1) (SQ_u (k := 40) (j := ((800 * u) + k)) (v := (((zup4 B 13 w 39 ((800 * u) + k) (-1)) 13 w 34 (((800 * u) + k) + 1)) - 2)) (SQ_u (k := 39) (j := ((800 * u) + k)) (v := (-1)) hq (by decide) (by decide) (by decide)) (by decide) (by decide) (by unfold r32; omega)) (by decide) (by decide) (by decide)) (by first | decide | omega) (by first | decide | omega) (by first | decide | omega) -- 139 f_M_groups_131
              · unfold f_M_groups_250
                refine zS_g (by first | decide | omega) ?_ -- 141
                refine zS_g (by unfold r32; omega) ?_ -- 142
                refine zS_i (fun h33 => ?_) (fun h33 => ?_) -- 143: (1 = 0)
                · unfold f_M_groups_277
                  refine zS_g (by first | decide | omega) ?_ -- 145
                  refine zS_g (by first | decide | omega) ?_ -- 146
                  exact ih (k + 1) _ (SQ_u (k := 41) (j := ((800 * u) + k)) (v := 0) (SQ_u (k := 40) (j := ((800 * u) + k)) (v := (((zup4 B 13 w 39 ((800 * u) + k) (-1)) 13 w 34 (((800 * u) + k) + 1)) - 2)) (SQ_u (k := 39) (j := ((800 * u) + k)) (v := (-1)) hq (by decide) (by decide) (by decide)) (by decide) (by decide) (by unfold r32; omega)) (by decide) (by decide) (by decide)) (by first | decide | omega) (by first | decide | omega) (by first | decide | omega) -- 147 f_M_groups_131
                · refine zS_g (by unfold r32; omega) ?_ -- 148
                  refine zS_i (fun h34 => ?_) (fun h34 => ?_) -- 149: (0 ≤ sm)
                  · unfold f_M_groups_277
                    refine zS_g (by first | decide | omega) ?_ -- 151
                    refine zS_g (by first | decide | omega) ?_ -- 152
                    exact ih (k + 1) _ (SQ_u (k := 41) (j := ((800 * u) + k)) (v := 2) (SQ_u (k := 40) (j := ((800 * u) + k)) (v := (((zup4 B 13 w 39 ((800 * u) + k) (-1)) 13 w 34 (((800 * u) + k) + 1)) - 2)) (SQ_u (k := 39) (j := ((800 * u) + k)) (v := (-1)) hq (by decide) (by decide) (by decide)) (by decide) (by decide) (by unfold r32; omega)) (by decide) (by decide) (by decide)) (by first | decide | omega) (by first | decide | omega) (by first | decide | omega) -- 153 f_M_groups_131
                  · unfold f_M_groups_277
                    refine zS_g (by first | decide | omega) ?_ -- 155
                    refine zS_g (by first | decide | omega) ?_ -- 156
                    exact ih (k + 1) _ (SQ_u (k := 41) (j := ((800 * u) + k)) (v := 1) (SQ_u (k := 40) (j := ((800 * u) + k)) (v := (((zup4 B 13 w 39 ((800 * u) + k) (-1)) 13 w 34 (((800 * u) + k) + 1)) - 2)) (SQ_u (k := 39) (j := ((800 * u) + k)) (v := (-1)) hq (by decide) (by decide) (by decide)) (by decide) (by decide) (by unfold r32; omega)) (by decide) (by decide) (by decide)) (by first | decide | omega) (by first | decide | omega) (by first | decide | omega) -- 157 f_M_groups_131
          · unfold f_M_groups_218
            unfold f_M_groups_224
            refine zS_g (by first | decide | omega) ?_ -- 160
            refine zS_g (by first | decide | omega) ?_ -- 161
            refine zS_b (s_sounding (K := K) (i := k) (RDW_q hR0 (SQ_u (k := 40) (j := ((800 * u) + k)) (v := (((zup4 B 13 w 39 ((800 * u) + k) (-1)) 13 w 34 ((800 * u) + k)) - 2)) (SQ_u (k := 39) (j := ((800 * u) + k)) (v := (-1)) hq (by decide) (by decide) (by decide)) (by decide) (by decide) (by unfold r32; omega))) u0 u1 (by first | decide | omega) (by have := (SQ_u (k := 40) (j := ((800 * u) + k)) (v := (((zup4 B 13 w 39 ((800 * u) + k) (-1)) 13 w 34 ((800 * u) + k)) - 2)) (SQ_u (k := 39) (j := ((800 * u) + k)) (v := (-1)) hq (by decide) (by decide) (by decide)) (by decide) (by decide) (by unfold r32; omega)).2 13 w 13 u (by first | decide | omega) (by first | decide | omega); omega)) ?_
            rintro r36 F _ ⟨rfl, rfl, q35⟩
            have lkar36 := (SQ_u (k := 40) (j := ((800 * u) + k)) (v := (((zup4 B 13 w 39 ((800 * u) + k) (-1)) 13 w 34 ((800 * u) + k)) - 2)) (SQ_u (k := 39) (j := ((800 * u) + k)) (v := (-1)) hq (by decide) (by decide) (by decide)) (by decide) (by decide) (by unfold r32; omega)).2 13 w 12 u (by first | decide | omega) (by first | decide | omega)
            have lkbr36 := (SQ_u (k := 40) (j := ((800 * u) + k)) (v := (((zup4 B 13 w 39 ((800 * u) + k) (-1)) 13 w 34 ((800 * u) + k)) - 2)) (SQ_u (k := 39) (j := ((800 * u) + k)) (v := (-1)) hq (by decide) (by decide) (by decide)) (by decide) (by decide) (by unfold r32; omega)).2 13 w 21 r36 (by first | decide | omega) (by first | decide | omega)
            refine zS_g (by unfold r32; omega) ?_ -- 163
            refine zS_i (fun h38 => ?_) (fun h38 => ?_) -- 164: (r36 < 0)
            · unfold f_M_groups_249
              unfold f_M_groups_250
              refine zS_g (by first | decide | omega) ?_ -- 167
              refine zS_g (by unfold r32; omega) ?_ -- 168
              refine zS_i (fun h39 => ?_) (fun h39 => ?_) -- 169: (0 = 0)
              · unfold f_M_groups_277
                refine zS_g (by first | decide | omega) ?_ -- 171
                refine zS_g (by first | decide | omega) ?_ -- 172
                exact ih (k + 1) _ (SQ_u (k := 41) (j := ((800 * u) + k)) (v := 0) (SQ_u (k := 40) (j := ((800 * u) + k)) (v := (((zup4 B 13 w 39 ((800 * u) + k) (-1)) 13 w 34 ((800 * u) + k)) - 2)) (SQ_u (k := 39) (j := ((800 * u) + k)) (v := (-1)) hq (by decide) (by decide) (by decide)) (by decide) (by decide) (by unfold r32; omega)) (by decide) (by decide) (by decide)) (by first | decide | omega) (by first | decide | omega) (by first | decide | omega) -- 173 f_M_groups_131
              · refine zS_g (by unfold r32; omega) ?_ -- 174
                refine zS_i (fun h40 => ?_) (fun h40 => ?_) -- 175: (0 ≤ sm)
                · unfold f_M_groups_277
                  refine zS_g (by first | decide | omega) ?_ -- 177
                  refine zS_g (by first | decide | omega) ?_ -- 178
                  exact ih (k + 1) _ (SQ_u (k := 41) (j := ((800 * u) + k)) (v := 2) (SQ_u (k := 40) (j := ((800 * u) + k)) (v := (((zup4 B 13 w 39 ((800 * u) + k) (-1)) 13 w 34 ((800 * u) + k)) - 2)) (SQ_u (k := 39) (j := ((800 * u) + k)) (v := (-1)) hq (by decide) (by decide) (by decide)) (by decide) (by decide) (by unfold r32; omega)) (by decide) (by decide) (by decide)) (by first | decide | omega) (by first | decide | omega) (by first | decide | omega) -- 179 f_M_groups_131
                · unfold f_M_groups_277
                  refine zS_g (by first | decide | omega) ?_ -- 181
                  refine zS_g (by first | decide | omega) ?_ -- 182
                  exact ih (k + 1) _ (SQ_u (k := 41) (j := ((800 * u) + k)) (v := 1) (SQ_u (k := 40) (j := ((800 * u) + k)) (v := (((zup4 B 13 w 39 ((800 * u) + k) (-1)) 13 w 34 ((800 * u) + k)) - 2)) (SQ_u (k := 39) (j := ((800 * u) + k)) (v := (-1)) hq (by decide) (by decide) (by decide)) (by decide) (by decide) (by unfold r32; omega)) (by decide) (by decide) (by decide)) (by first | decide | omega) (by first | decide | omega) (by first | decide | omega) -- 183 f_M_groups_131
            · refine zS_g (by first | decide | omega) ?_ -- 184
              refine zS_g (by first | decide | omega) ?_ -- 185
              have a41 := (SQ_u (k := 40) (j := ((800 * u) + k)) (v := (((zup4 B 13 w 39 ((800 * u) + k) (-1)) 13 w 34 ((800 * u) + k)) - 2)) (SQ_u (k := 39) (j := ((800 * u) + k)) (v := (-1)) hq (by decide) (by decide) (by decide)) (by decide) (by decide) (by unfold r32; omega)).2 13 w 34 ((800 * u) + k) (by first | decide | omega) (by first | decide | omega)
              refine zS_g (by unfold r32; omega) ?_ -- 186
              refine zS_i (fun h42 => ?_) (fun h42 => ?_) -- 187: (((zup4 (zup4 B 13 w 39 ((800 * u) + k) (-1)) 13 w 40 ((800 * u) + k) (((zup4 B 13 w 39 ((800 * u) +
              · unfold f_M_groups_249
                unfold f_M_groups_250
                refine zS_g (by first | decide | omega) ?_ -- 190
                refine zS_g (by unfold r32; omega) ?_ -- 191
                refine zS_i (fun h43 => ?_) (fun h43 => ?_) -- 192: (0 = 0)
                · unfold f_M_groups_277
                  refine zS_g (by first | decide | omega) ?_ -- 194
                  refine zS_g (by first | decide | omega) ?_ -- 195
                  exact ih (k + 1) _ (SQ_u (k := 41) (j := ((800 * u) + k)) (v := 0) (SQ_u (k := 40) (j := ((800 * u) + k)) (v := (((zup4 B 13 w 39 ((800 * u) + k) (-1)) 13 w 34 ((800 * u) + k)) - 2)) (SQ_u (k := 39) (j := ((800 * u) + k)) (v := (-1)) hq (by decide) (by decide) (by decide)) (by decide) (by decide) (by unfold r32; omega)) (by decide) (by decide) (by decide)) (by first | decide | omega) (by first | decide | omega) (by first | decide | omega) -- 196 f_M_groups_131
                · refine zS_g (by unfold r32; omega) ?_ -- 197
                  refine zS_i (fun h44 => ?_) (fun h44 => ?_) -- 198: (0 ≤ sm)
                  · unfold f_M_groups_277
                    refine zS_g (by first | decide | omega) ?_ -- 200
                    refine zS_g (by first | decide | omega) ?_ -- 201
                    exact ih (k + 1) _ (SQ_u (k := 41) (j := ((800 * u) + k)) (v := 2) (SQ_u (k := 40) (j := ((800 * u) + k)) (v := (((zup4 B 13 w 39 ((800 * u) + k) (-1)) 13 w 34 ((800 * u) + k)) - 2)) (SQ_u (k := 39) (j := ((800 * u) + k)) (v := (-1)) hq (by decide) (by decide) (by decide)) (by decide) (by decide) (by unfold r32; omega)) (by decide) (by decide) (by decide)) (by first | decide | omega) (by first | decide | omega) (by first | decide | omega) -- 202 f_M_groups_131
                  · unfold f_M_groups_277
                    refine zS_g (by first | decide | omega) ?_ -- 204
                    refine zS_g (by first | decide | omega) ?_ -- 205
                    exact ih (k + 1) _ (SQ_u (k := 41) (j := ((800 * u) + k)) (v := 1) (SQ_u (k := 40) (j := ((800 * u) + k)) (v := (((zup4 B 13 w 39 ((800 * u) + k) (-1)) 13 w 34 ((800 * u) + k)) - 2)) (SQ_u (k := 39) (j := ((800 * u) + k)) (v := (-1)) hq (by decide) (by decide) (by decide)) (by decide) (by decide) (by unfold r32; omega)) (by decide) (by decide) (by decide)) (by first | decide | omega) (by first | decide | omega) (by first | decide | omega) -- 206 f_M_groups_131
              · unfold f_M_groups_250
                refine zS_g (by first | decide | omega) ?_ -- 208
                refine zS_g (by unfold r32; omega) ?_ -- 209
                refine zS_i (fun h45 => ?_) (fun h45 => ?_) -- 210: (1 = 0)
                · unfold f_M_groups_277
                  refine zS_g (by first | decide | omega) ?_ -- 212
                  refine zS_g (by first | decide | omega) ?_ -- 213
                  exact ih (k + 1) _ (SQ_u (k := 41) (j := ((800 * u) + k)) (v := 0) (SQ_u (k := 40) (j := ((800 * u) + k)) (v := (((zup4 B 13 w 39 ((800 * u) + k) (-1)) 13 w 34 ((800 * u) + k)) - 2)) (SQ_u (k := 39) (j := ((800 * u) + k)) (v := (-1)) hq (by decide) (by decide) (by decide)) (by decide) (by decide) (by unfold r32; omega)) (by decide) (by decide) (by decide)) (by first | decide | omega) (by first | decide | omega) (by first | decide | omega) -- 214 f_M_groups_131
                · refine zS_g (by unfold r32; omega) ?_ -- 215
                  refine zS_i (fun h46 => ?_) (fun h46 => ?_) -- 216: (0 ≤ sm)
                  · unfold f_M_groups_277
                    refine zS_g (by first | decide | omega) ?_ -- 218
                    refine zS_g (by first | decide | omega) ?_ -- 219
                    exact ih (k + 1) _ (SQ_u (k := 41) (j := ((800 * u) + k)) (v := 2) (SQ_u (k := 40) (j := ((800 * u) + k)) (v := (((zup4 B 13 w 39 ((800 * u) + k) (-1)) 13 w 34 ((800 * u) + k)) - 2)) (SQ_u (k := 39) (j := ((800 * u) + k)) (v := (-1)) hq (by decide) (by decide) (by decide)) (by decide) (by decide) (by unfold r32; omega)) (by decide) (by decide) (by decide)) (by first | decide | omega) (by first | decide | omega) (by first | decide | omega) -- 220 f_M_groups_131
                  · unfold f_M_groups_277
                    refine zS_g (by first | decide | omega) ?_ -- 222
                    refine zS_g (by first | decide | omega) ?_ -- 223
                    exact ih (k + 1) _ (SQ_u (k := 41) (j := ((800 * u) + k)) (v := 1) (SQ_u (k := 40) (j := ((800 * u) + k)) (v := (((zup4 B 13 w 39 ((800 * u) + k) (-1)) 13 w 34 ((800 * u) + k)) - 2)) (SQ_u (k := 39) (j := ((800 * u) + k)) (v := (-1)) hq (by decide) (by decide) (by decide)) (by decide) (by decide) (by unfold r32; omega)) (by decide) (by decide) (by decide)) (by first | decide | omega) (by first | decide | omega) (by first | decide | omega) -- 224 f_M_groups_131
      · unfold f_M_groups_164
        refine zS_g (by first | decide | omega) ?_ -- 226
        refine zS_g (by first | decide | omega) ?_ -- 227
        refine zS_g (by first | decide | omega) ?_ -- 228
        refine zS_g (by unfold r32; omega) ?_ -- 229
        refine zS_g (by unfold r32; omega) ?_ -- 230
        refine zS_i (fun h47 => ?_) (fun h47 => ?_) -- 231: (e ≤ (k + 1))
        · unfold f_M_groups_224
          refine zS_g (by first | decide | omega) ?_ -- 233
          refine zS_g (by first | decide | omega) ?_ -- 234
          refine zS_b (s_sounding (K := K) (i := k) (RDW_q hR0 (SQ_u (k := 40) (j := ((800 * u) + k)) (v := 0) (SQ_u (k := 39) (j := ((800 * u) + k)) (v := l3) hq (by decide) (by decide) (by unfold r32; omega)) (by decide) (by decide) (by decide))) u0 u1 (by first | decide | omega) (by have := (SQ_u (k := 40) (j := ((800 * u) + k)) (v := 0) (SQ_u (k := 39) (j := ((800 * u) + k)) (v := l3) hq (by decide) (by decide) (by unfold r32; omega)) (by decide) (by decide) (by decide)).2 13 w 13 u (by first | decide | omega) (by first | decide | omega); omega)) ?_
          rintro r49 F _ ⟨rfl, rfl, q48⟩
          have lkar49 := (SQ_u (k := 40) (j := ((800 * u) + k)) (v := 0) (SQ_u (k := 39) (j := ((800 * u) + k)) (v := l3) hq (by decide) (by decide) (by unfold r32; omega)) (by decide) (by decide) (by decide)).2 13 w 12 u (by first | decide | omega) (by first | decide | omega)
          have lkbr49 := (SQ_u (k := 40) (j := ((800 * u) + k)) (v := 0) (SQ_u (k := 39) (j := ((800 * u) + k)) (v := l3) hq (by decide) (by decide) (by unfold r32; omega)) (by decide) (by decide) (by decide)).2 13 w 21 r49 (by first | decide | omega) (by first | decide | omega)
          refine zS_g (by unfold r32; omega) ?_ -- 236
          refine zS_i (fun h51 => ?_) (fun h51 => ?_) -- 237: (r49 < 0)
          · unfold f_M_groups_249
            unfold f_M_groups_250
            refine zS_g (by first | decide | omega) ?_ -- 240
            refine zS_g (by unfold r32; omega) ?_ -- 241
            refine zS_i (fun h52 => ?_) (fun h52 => ?_) -- 242: (0 = 0)
            · unfold f_M_groups_277
              refine zS_g (by first | decide | omega) ?_ -- 244
              refine zS_g (by first | decide | omega) ?_ -- 245
              exact ih (k + 1) _ (SQ_u (k := 41) (j := ((800 * u) + k)) (v := 0) (SQ_u (k := 40) (j := ((800 * u) + k)) (v := 0) (SQ_u (k := 39) (j := ((800 * u) + k)) (v := l3) hq (by decide) (by decide) (by unfold r32; omega)) (by decide) (by decide) (by decide)) (by decide) (by decide) (by decide)) (by first | decide | omega) (by first | decide | omega) (by first | decide | omega) -- 246 f_M_groups_131
            · refine zS_g (by unfold r32; omega) ?_ -- 247
              refine zS_i (fun h53 => ?_) (fun h53 => ?_) -- 248: (0 ≤ sm)
              · unfold f_M_groups_277
                refine zS_g (by first | decide | omega) ?_ -- 250
                refine zS_g (by first | decide | omega) ?_ -- 251
                exact ih (k + 1) _ (SQ_u (k := 41) (j := ((800 * u) + k)) (v := 2) (SQ_u (k := 40) (j := ((800 * u) + k)) (v := 0) (SQ_u (k := 39) (j := ((800 * u) + k)) (v := l3) hq (by decide) (by decide) (by unfold r32; omega)) (by decide) (by decide) (by decide)) (by decide) (by decide) (by decide)) (by first | decide | omega) (by first | decide | omega) (by first | decide | omega) -- 252 f_M_groups_131
              · unfold f_M_groups_277
                refine zS_g (by first | decide | omega) ?_ -- 254
                refine zS_g (by first | decide | omega) ?_ -- 255
                exact ih (k + 1) _ (SQ_u (k := 41) (j := ((800 * u) + k)) (v := 1) (SQ_u (k := 40) (j := ((800 * u) + k)) (v := 0) (SQ_u (k := 39) (j := ((800 * u) + k)) (v := l3) hq (by decide) (by decide) (by unfold r32; omega)) (by decide) (by decide) (by decide)) (by decide) (by decide) (by decide)) (by first | decide | omega) (by first | decide | omega) (by first | decide | omega) -- 256 f_M_groups_131
          · refine zS_g (by first | decide | omega) ?_ -- 257
            refine zS_g (by first | decide | omega) ?_ -- 258
            have a54 := (SQ_u (k := 40) (j := ((800 * u) + k)) (v := 0) (SQ_u (k := 39) (j := ((800 * u) + k)) (v := l3) hq (by decide) (by decide) (by unfold r32; omega)) (by decide) (by decide) (by decide)).2 13 w 34 ((800 * u) + k) (by first | decide | omega) (by first | decide | omega)
            have a55 := rd_n (u := u) (y := ((800 * u) + k)) hR0 (by first | decide | omega) (by first | decide | omega) (by first | decide | omega) (by first | decide | omega)
            refine zS_g (by unfold r32; omega) ?_ -- 259
            refine zS_i (fun h56 => ?_) (fun h56 => ?_) -- 260: (((zup4 (zup4 B 13 w 39 ((800 * u) + k) l3) 13 w 40 ((800 * u) + k) 0) 13 w 34 ((800 * u) + k)) ≤ 0)
            · unfold f_M_groups_249
              unfold f_M_groups_250
              refine zS_g (by first | decide | omega) ?_ -- 263
              refine zS_g (by unfold r32; omega) ?_ -- 264
              refine zS_i (fun h57 => ?_) (fun h57 => ?_) -- 265: (0 = 0)
              · unfold f_M_groups_277
                refine zS_g (by first | decide | omega) ?_ -- 267
                refine zS_g (by first | decide | omega) ?_ -- 268
                exact ih (k + 1) _ (SQ_u (k := 41) (j := ((800 * u) + k)) (v := 0) (SQ_u (k := 40) (j := ((800 * u) + k)) (v := 0) (SQ_u (k := 39) (j := ((800 * u) + k)) (v := l3) hq (by decide) (by decide) (by unfold r32; omega)) (by decide) (by decide) (by decide)) (by decide) (by decide) (by decide)) (by first | decide | omega) (by first | decide | omega) (by first | decide | omega) -- 269 f_M_groups_131
              · refine zS_g (by unfold r32; omega) ?_ -- 270
                refine zS_i (fun h58 => ?_) (fun h58 => ?_) -- 271: (0 ≤ sm)
                · unfold f_M_groups_277
                  refine zS_g (by first | decide | omega) ?_ -- 273
                  refine zS_g (by first | decide | omega) ?_ -- 274
                  exact ih (k + 1) _ (SQ_u (k := 41) (j := ((800 * u) + k)) (v := 2) (SQ_u (k := 40) (j := ((800 * u) + k)) (v := 0) (SQ_u (k := 39) (j := ((800 * u) + k)) (v := l3) hq (by decide) (by decide) (by unfold r32; omega)) (by decide) (by decide) (by decide)) (by decide) (by decide) (by decide)) (by first | decide | omega) (by first | decide | omega) (by first | decide | omega) -- 275 f_M_groups_131
                · unfold f_M_groups_277
                  refine zS_g (by first | decide | omega) ?_ -- 277
                  refine zS_g (by first | decide | omega) ?_ -- 278
                  exact ih (k + 1) _ (SQ_u (k := 41) (j := ((800 * u) + k)) (v := 1) (SQ_u (k := 40) (j := ((800 * u) + k)) (v := 0) (SQ_u (k := 39) (j := ((800 * u) + k)) (v := l3) hq (by decide) (by decide) (by unfold r32; omega)) (by decide) (by decide) (by decide)) (by decide) (by decide) (by decide)) (by first | decide | omega) (by first | decide | omega) (by first | decide | omega) -- 279 f_M_groups_131
            · unfold f_M_groups_250
              refine zS_g (by first | decide | omega) ?_ -- 281
              refine zS_g (by unfold r32; omega) ?_ -- 282
              refine zS_i (fun h59 => ?_) (fun h59 => ?_) -- 283: (1 = 0)
              · unfold f_M_groups_277
                refine zS_g (by first | decide | omega) ?_ -- 285
                refine zS_g (by first | decide | omega) ?_ -- 286
                exact ih (k + 1) _ (SQ_u (k := 41) (j := ((800 * u) + k)) (v := 0) (SQ_u (k := 40) (j := ((800 * u) + k)) (v := 0) (SQ_u (k := 39) (j := ((800 * u) + k)) (v := l3) hq (by decide) (by decide) (by unfold r32; omega)) (by decide) (by decide) (by decide)) (by decide) (by decide) (by decide)) (by first | decide | omega) (by first | decide | omega) (by first | decide | omega) -- 287 f_M_groups_131
              · refine zS_g (by unfold r32; omega) ?_ -- 288
                refine zS_i (fun h60 => ?_) (fun h60 => ?_) -- 289: (0 ≤ sm)
                · unfold f_M_groups_277
                  refine zS_g (by first | decide | omega) ?_ -- 291
                  refine zS_g (by first | decide | omega) ?_ -- 292
                  exact ih (k + 1) _ (SQ_u (k := 41) (j := ((800 * u) + k)) (v := 2) (SQ_u (k := 40) (j := ((800 * u) + k)) (v := 0) (SQ_u (k := 39) (j := ((800 * u) + k)) (v := l3) hq (by decide) (by decide) (by unfold r32; omega)) (by decide) (by decide) (by decide)) (by decide) (by decide) (by decide)) (by first | decide | omega) (by first | decide | omega) (by first | decide | omega) -- 293 f_M_groups_131
                · unfold f_M_groups_277
                  refine zS_g (by first | decide | omega) ?_ -- 295
                  refine zS_g (by first | decide | omega) ?_ -- 296
                  exact ih (k + 1) _ (SQ_u (k := 41) (j := ((800 * u) + k)) (v := 1) (SQ_u (k := 40) (j := ((800 * u) + k)) (v := 0) (SQ_u (k := 39) (j := ((800 * u) + k)) (v := l3) hq (by decide) (by decide) (by unfold r32; omega)) (by decide) (by decide) (by decide)) (by decide) (by decide) (by decide)) (by first | decide | omega) (by first | decide | omega) (by first | decide | omega) -- 297 f_M_groups_131
        · refine zS_g (by first | decide | omega) ?_ -- 298
          refine zS_g (by first | decide | omega) ?_ -- 299
          have a61 := (SQ_u (k := 39) (j := ((800 * u) + k)) (v := l3) hq (by decide) (by decide) (by unfold r32; omega)).2 13 w 34 ((800 * u) + k) (by first | decide | omega) (by first | decide | omega)
          have a62 := rd_n (u := u) (y := ((800 * u) + k)) hR0 (by first | decide | omega) (by first | decide | omega) (by first | decide | omega) (by first | decide | omega)
          refine zS_g (by unfold r32; omega) ?_ -- 300
          have a63 := (SQ_u (k := 39) (j := ((800 * u) + k)) (v := l3) hq (by decide) (by decide) (by unfold r32; omega)).2 13 w 34 (((800 * u) + k) + 1) (by first | decide | omega) (by first | decide | omega)
          have a64 := rd_n (u := u) (y := (((800 * u) + k) + 1)) hR0 (by first | decide | omega) (by first | decide | omega) (by first | decide | omega) (by first | decide | omega)
          refine zS_g (by unfold r32; omega) ?_ -- 301
          refine zS_i (fun h65 => ?_) (fun h65 => ?_) -- 302: (((zup4 B 13 w 39 ((800 * u) + k) l3) 13 w 34 (((800 * u) + k) + 1)) ≤ ((zup4 B 13 w 39 ((800 * u) +
          · unfold f_M_groups_218
            unfold f_M_groups_224
            refine zS_g (by first | decide | omega) ?_ -- 305
            refine zS_g (by first | decide | omega) ?_ -- 306
            refine zS_b (s_sounding (K := K) (i := k) (RDW_q hR0 (SQ_u (k := 40) (j := ((800 * u) + k)) (v := (((zup4 B 13 w 39 ((800 * u) + k) l3) 13 w 34 (((800 * u) + k) + 1)) - 2)) (SQ_u (k := 39) (j := ((800 * u) + k)) (v := l3) hq (by decide) (by decide) (by unfold r32; omega)) (by decide) (by decide) (by unfold r32; omega))) u0 u1 (by first | decide | omega) (by have := (SQ_u (k := 40) (j := ((800 * u) + k)) (v := (((zup4 B 13 w 39 ((800 * u) + k) l3) 13 w 34 (((800 * u) + k) + 1)) - 2)) (SQ_u (k := 39) (j := ((800 * u) + k)) (v := l3) hq (by decide) (by decide) (by unfold r32; omega)) (by decide) (by decide) (by unfold r32; omega)).2 13 w 13 u (by first | decide | omega) (by first | decide | omega); omega)) ?_
            rintro r67 F _ ⟨rfl, rfl, q66⟩
            have lkar67 := (SQ_u (k := 40) (j := ((800 * u) + k)) (v := (((zup4 B 13 w 39 ((800 * u) + k) l3) 13 w 34 (((800 * u) + k) + 1)) - 2)) (SQ_u (k := 39) (j := ((800 * u) + k)) (v := l3) hq (by decide) (by decide) (by unfold r32; omega)) (by decide) (by decide) (by unfold r32; omega)).2 13 w 12 u (by first | decide | omega) (by first | decide | omega)
            have lkbr67 := (SQ_u (k := 40) (j := ((800 * u) + k)) (v := (((zup4 B 13 w 39 ((800 * u) + k) l3) 13 w 34 (((800 * u) + k) + 1)) - 2)) (SQ_u (k := 39) (j := ((800 * u) + k)) (v := l3) hq (by decide) (by decide) (by unfold r32; omega)) (by decide) (by decide) (by unfold r32; omega)).2 13 w 21 r67 (by first | decide | omega) (by first | decide | omega)
            refine zS_g (by unfold r32; omega) ?_ -- 308
            refine zS_i (fun h69 => ?_) (fun h69 => ?_) -- 309: (r67 < 0)
            · unfold f_M_groups_249
              unfold f_M_groups_250
              refine zS_g (by first | decide | omega) ?_ -- 312
              refine zS_g (by unfold r32; omega) ?_ -- 313
              refine zS_i (fun h70 => ?_) (fun h70 => ?_) -- 314: (0 = 0)
              · unfold f_M_groups_277
                refine zS_g (by first | decide | omega) ?_ -- 316
                refine zS_g (by first | decide | omega) ?_ -- 317
                exact ih (k + 1) _ (SQ_u (k := 41) (j := ((800 * u) + k)) (v := 0) (SQ_u (k := 40) (j := ((800 * u) + k)) (v := (((zup4 B 13 w 39 ((800 * u) + k) l3) 13 w 34 (((800 * u) + k) + 1)) - 2)) (SQ_u (k := 39) (j := ((800 * u) + k)) (v := l3) hq (by decide) (by decide) (by unfold r32; omega)) (by decide) (by decide) (by unfold r32; omega)) (by decide) (by decide) (by decide)) (by first | decide | omega) (by first | decide | omega) (by first | decide | omega) -- 318 f_M_groups_131
              · refine zS_g (by unfold r32; omega) ?_ -- 319
                refine zS_i (fun h71 => ?_) (fun h71 => ?_) -- 320: (0 ≤ sm)
                · unfold f_M_groups_277
                  refine zS_g (by first | decide | omega) ?_ -- 322
                  refine zS_g (by first | decide | omega) ?_ -- 323
                  exact ih (k + 1) _ (SQ_u (k := 41) (j := ((800 * u) + k)) (v := 2) (SQ_u (k := 40) (j := ((800 * u) + k)) (v := (((zup4 B 13 w 39 ((800 * u) + k) l3) 13 w 34 (((800 * u) + k) + 1)) - 2)) (SQ_u (k := 39) (j := ((800 * u) + k)) (v := l3) hq (by decide) (by decide) (by unfold r32; omega)) (by decide) (by decide) (by unfold r32; omega)) (by decide) (by decide) (by decide)) (by first | decide | omega) (by first | decide | omega) (by first | decide | omega) -- 324 f_M_groups_131
                · unfold f_M_groups_277
                  refine zS_g (by first | decide | omega) ?_ -- 326
                  refine zS_g (by first | decide | omega) ?_ -- 327
                  exact ih (k + 1) _ (SQ_u (k := 41) (j := ((800 * u) + k)) (v := 1) (SQ_u (k := 40) (j := ((800 * u) + k)) (v := (((zup4 B 13 w 39 ((800 * u) + k) l3) 13 w 34 (((800 * u) + k) + 1)) - 2)) (SQ_u (k := 39) (j := ((800 * u) + k)) (v := l3) hq (by decide) (by decide) (by unfold r32; omega)) (by decide) (by decide) (by unfold r32; omega)) (by decide) (by decide) (by decide)) (by first | decide | omega) (by first | decide | omega) (by first | decide | omega) -- 328 f_M_groups_131
            · refine zS_g (by first | decide | omega) ?_ -- 329
              refine zS_g (by first | decide | omega) ?_ -- 330
              have a72 := (SQ_u (k := 40) (j := ((800 * u) + k)) (v := (((zup4 B 13 w 39 ((800 * u) + k) l3) 13 w 34 (((800 * u) + k) + 1)) - 2)) (SQ_u (k := 39) (j := ((800 * u) + k)) (v := l3) hq (by decide) (by decide) (by unfold r32; omega)) (by decide) (by decide) (by unfold r32; omega)).2 13 w 34 ((800 * u) + k) (by first | decide | omega) (by first | decide | omega)
              refine zS_g (by unfold r32; omega) ?_ -- 331
              refine zS_i (fun h73 => ?_) (fun h73 => ?_) -- 332: (((zup4 (zup4 B 13 w 39 ((800 * u) + k) l3) 13 w 40 ((800 * u) + k) (((zup4 B 13 w 39 ((800 * u) + k
              · unfold f_M_groups_249
                unfold f_M_groups_250
                refine zS_g (by first | decide | omega) ?_ -- 335
                refine zS_g (by unfold r32; omega) ?_ -- 336
                refine zS_i (fun h74 => ?_) (fun h74 => ?_) -- 337: (0 = 0)
                · unfold f_M_groups_277
                  refine zS_g (by first | decide | omega) ?_ -- 339
                  refine zS_g (by first | decide | omega) ?_ -- 340
                  exact ih (k + 1) _ (SQ_u (k := 41) (j := ((800 * u) + k)) (v := 0) (SQ_u (k := 40) (j := ((800 * u) + k)) (v := (((zup4 B 13 w 39 ((800 * u) + k) l3) 13 w 34 (((800 * u) + k) + 1)) - 2)) (SQ_u (k := 39) (j := ((800 * u) + k)) (v := l3) hq (by decide) (by decide) (by unfold r32; omega)) (by decide) (by decide) (by unfold r32; omega)) (by decide) (by decide) (by decide)) (by first | decide | omega) (by first | decide | omega) (by first | decide | omega) -- 341 f_M_groups_131
                · refine zS_g (by unfold r32; omega) ?_ -- 342
                  refine zS_i (fun h75 => ?_) (fun h75 => ?_) -- 343: (0 ≤ sm)
                  · unfold f_M_groups_277
                    refine zS_g (by first | decide | omega) ?_ -- 345
                    refine zS_g (by first | decide | omega) ?_ -- 346
                    exact ih (k + 1) _ (SQ_u (k := 41) (j := ((800 * u) + k)) (v := 2) (SQ_u (k := 40) (j := ((800 * u) + k)) (v := (((zup4 B 13 w 39 ((800 * u) + k) l3) 13 w 34 (((800 * u) + k) + 1)) - 2)) (SQ_u (k := 39) (j := ((800 * u) + k)) (v := l3) hq (by decide) (by decide) (by unfold r32; omega)) (by decide) (by decide) (by unfold r32; omega)) (by decide) (by decide) (by decide)) (by first | decide | omega) (by first | decide | omega) (by first | decide | omega) -- 347 f_M_groups_131
                  · unfold f_M_groups_277
                    refine zS_g (by first | decide | omega) ?_ -- 349
                    refine zS_g (by first | decide | omega) ?_ -- 350
                    exact ih (k + 1) _ (SQ_u (k := 41) (j := ((800 * u) + k)) (v := 1) (SQ_u (k := 40) (j := ((800 * u) + k)) (v := (((zup4 B 13 w 39 ((800 * u) + k) l3) 13 w 34 (((800 * u) + k) + 1)) - 2)) (SQ_u (k := 39) (j := ((800 * u) + k)) (v := l3) hq (by decide) (by decide) (by unfold r32; omega)) (by decide) (by decide) (by unfold r32; omega)) (by decide) (by decide) (by decide)) (by first | decide | omega) (by first | decide | omega) (by first | decide | omega) -- 351 f_M_groups_131
              · unfold f_M_groups_250
                refine zS_g (by first | decide | omega) ?_ -- 353
                refine zS_g (by unfold r32; omega) ?_ -- 354
                refine zS_i (fun h76 => ?_) (fun h76 => ?_) -- 355: (1 = 0)
                · unfold f_M_groups_277
                  refine zS_g (by first | decide | omega) ?_ -- 357
                  refine zS_g (by first | decide | omega) ?_ -- 358
                  exact ih (k + 1) _ (SQ_u (k := 41) (j := ((800 * u) + k)) (v := 0) (SQ_u (k := 40) (j := ((800 * u) + k)) (v := (((zup4 B 13 w 39 ((800 * u) + k) l3) 13 w 34 (((800 * u) + k) + 1)) - 2)) (SQ_u (k := 39) (j := ((800 * u) + k)) (v := l3) hq (by decide) (by decide) (by unfold r32; omega)) (by decide) (by decide) (by unfold r32; omega)) (by decide) (by decide) (by decide)) (by first | decide | omega) (by first | decide | omega) (by first | decide | omega) -- 359 f_M_groups_131
                · refine zS_g (by unfold r32; omega) ?_ -- 360
                  refine zS_i (fun h77 => ?_) (fun h77 => ?_) -- 361: (0 ≤ sm)
                  · unfold f_M_groups_277
                    refine zS_g (by first | decide | omega) ?_ -- 363
                    refine zS_g (by first | decide | omega) ?_ -- 364
                    exact ih (k + 1) _ (SQ_u (k := 41) (j := ((800 * u) + k)) (v := 2) (SQ_u (k := 40) (j := ((800 * u) + k)) (v := (((zup4 B 13 w 39 ((800 * u) + k) l3) 13 w 34 (((800 * u) + k) + 1)) - 2)) (SQ_u (k := 39) (j := ((800 * u) + k)) (v := l3) hq (by decide) (by decide) (by unfold r32; omega)) (by decide) (by decide) (by unfold r32; omega)) (by decide) (by decide) (by decide)) (by first | decide | omega) (by first | decide | omega) (by first | decide | omega) -- 365 f_M_groups_131
                  · unfold f_M_groups_277
                    refine zS_g (by first | decide | omega) ?_ -- 367
                    refine zS_g (by first | decide | omega) ?_ -- 368
                    exact ih (k + 1) _ (SQ_u (k := 41) (j := ((800 * u) + k)) (v := 1) (SQ_u (k := 40) (j := ((800 * u) + k)) (v := (((zup4 B 13 w 39 ((800 * u) + k) l3) 13 w 34 (((800 * u) + k) + 1)) - 2)) (SQ_u (k := 39) (j := ((800 * u) + k)) (v := l3) hq (by decide) (by decide) (by unfold r32; omega)) (by decide) (by decide) (by unfold r32; omega)) (by decide) (by decide) (by decide)) (by first | decide | omega) (by first | decide | omega) (by first | decide | omega) -- 369 f_M_groups_131
          · unfold f_M_groups_218
            unfold f_M_groups_224
            refine zS_g (by first | decide | omega) ?_ -- 372
            refine zS_g (by first | decide | omega) ?_ -- 373
            refine zS_b (s_sounding (K := K) (i := k) (RDW_q hR0 (SQ_u (k := 40) (j := ((800 * u) + k)) (v := (((zup4 B 13 w 39 ((800 * u) + k) l3) 13 w 34 ((800 * u) + k)) - 2)) (SQ_u (k := 39) (j := ((800 * u) + k)) (v := l3) hq (by decide) (by decide) (by unfold r32; omega)) (by decide) (by decide) (by unfold r32; omega))) u0 u1 (by first | decide | omega) (by have := (SQ_u (k := 40) (j := ((800 * u) + k)) (v := (((zup4 B 13 w 39 ((800 * u) + k) l3) 13 w 34 ((800 * u) + k)) - 2)) (SQ_u (k := 39) (j := ((800 * u) + k)) (v := l3) hq (by decide) (by decide) (by unfold r32; omega)) (by decide) (by decide) (by unfold r32; omega)).2 13 w 13 u (by first | decide | omega) (by first | decide | omega); omega)) ?_
            rintro r79 F _ ⟨rfl, rfl, q78⟩
            have lkar79 := (SQ_u (k := 40) (j := ((800 * u) + k)) (v := (((zup4 B 13 w 39 ((800 * u) + k) l3) 13 w 34 ((800 * u) + k)) - 2)) (SQ_u (k := 39) (j := ((800 * u) + k)) (v := l3) hq (by decide) (by decide) (by unfold r32; omega)) (by decide) (by decide) (by unfold r32; omega)).2 13 w 12 u (by first | decide | omega) (by first | decide | omega)
            have lkbr79 := (SQ_u (k := 40) (j := ((800 * u) + k)) (v := (((zup4 B 13 w 39 ((800 * u) + k) l3) 13 w 34 ((800 * u) + k)) - 2)) (SQ_u (k := 39) (j := ((800 * u) + k)) (v := l3) hq (by decide) (by decide) (by unfold r32; omega)) (by decide) (by decide) (by unfold r32; omega)).2 13 w 21 r79 (by first | decide | omega) (by first | decide | omega)
            refine zS_g (by unfold r32; omega) ?_ -- 375
            refine zS_i (fun h81 => ?_) (fun h81 => ?_) -- 376: (r79 < 0)
            · unfold f_M_groups_249
              unfold f_M_groups_250
              refine zS_g (by first | decide | omega) ?_ -- 379
              refine zS_g (by unfold r32; omega) ?_ -- 380
              refine zS_i (fun h82 => ?_) (fun h82 => ?_) -- 381: (0 = 0)
              · unfold f_M_groups_277
                refine zS_g (by first | decide | omega) ?_ -- 383
                refine zS_g (by first | decide | omega) ?_ -- 384
                exact ih (k + 1) _ (SQ_u (k := 41) (j := ((800 * u) + k)) (v := 0) (SQ_u (k := 40) (j := ((800 * u) + k)) (v := (((zup4 B 13 w 39 ((800 * u) + k) l3) 13 w 34 ((800 * u) + k)) - 2)) (SQ_u (k := 39) (j := ((800 * u) + k)) (v := l3) hq (by decide) (by decide) (by unfold r32; omega)) (by decide) (by decide) (by unfold r32; omega)) (by decide) (by decide) (by decide)) (by first | decide | omega) (by first | decide | omega) (by first | decide | omega) -- 385 f_M_groups_131
              · refine zS_g (by unfold r32; omega) ?_ -- 386
                refine zS_i (fun h83 => ?_) (fun h83 => ?_) -- 387: (0 ≤ sm)
                · unfold f_M_groups_277
                  refine zS_g (by first | decide | omega) ?_ -- 389
                  refine zS_g (by first | decide | omega) ?_ -- 390
                  exact ih (k + 1) _ (SQ_u (k := 41) (j := ((800 * u) + k)) (v := 2) (SQ_u (k := 40) (j := ((800 * u) + k)) (v := (((zup4 B 13 w 39 ((800 * u) + k) l3) 13 w 34 ((800 * u) + k)) - 2)) (SQ_u (k := 39) (j := ((800 * u) + k)) (v := l3) hq (by decide) (by decide) (by unfold r32; omega)) (by decide) (by decide) (by unfold r32; omega)) (by decide) (by decide) (by decide)) (by first | decide | omega) (by first | decide | omega) (by first | decide | omega) -- 391 f_M_groups_131
                · unfold f_M_groups_277
                  refine zS_g (by first | decide | omega) ?_ -- 393
                  refine zS_g (by first | decide | omega) ?_ -- 394
                  exact ih (k + 1) _ (SQ_u (k := 41) (j := ((800 * u) + k)) (v := 1) (SQ_u (k := 40) (j := ((800 * u) + k)) (v := (((zup4 B 13 w 39 ((800 * u) + k) l3) 13 w 34 ((800 * u) + k)) - 2)) (SQ_u (k := 39) (j := ((800 * u) + k)) (v := l3) hq (by decide) (by decide) (by unfold r32; omega)) (by decide) (by decide) (by unfold r32; omega)) (by decide) (by decide) (by decide)) (by first | decide | omega) (by first | decide | omega) (by first | decide | omega) -- 395 f_M_groups_131
            · refine zS_g (by first | decide | omega) ?_ -- 396
              refine zS_g (by first | decide | omega) ?_ -- 397
              have a84 := (SQ_u (k := 40) (j := ((800 * u) + k)) (v := (((zup4 B 13 w 39 ((800 * u) + k) l3) 13 w 34 ((800 * u) + k)) - 2)) (SQ_u (k := 39) (j := ((800 * u) + k)) (v := l3) hq (by decide) (by decide) (by unfold r32; omega)) (by decide) (by decide) (by unfold r32; omega)).2 13 w 34 ((800 * u) + k) (by first | decide | omega) (by first | decide | omega)
              refine zS_g (by unfold r32; omega) ?_ -- 398
              refine zS_i (fun h85 => ?_) (fun h85 => ?_) -- 399: (((zup4 (zup4 B 13 w 39 ((800 * u) + k) l3) 13 w 40 ((800 * u) + k) (((zup4 B 13 w 39 ((800 * u) + k
              · unfold f_M_groups_249
                unfold f_M_groups_250
                refine zS_g (by first | decide | omega) ?_ -- 402
                refine zS_g (by unfold r32; omega) ?_ -- 403
                refine zS_i (fun h86 => ?_) (fun h86 => ?_) -- 404: (0 = 0)
                · unfold f_M_groups_277
                  refine zS_g (by first | decide | omega) ?_ -- 406
                  refine zS_g (by first | decide | omega) ?_ -- 407
                  exact ih (k + 1) _ (SQ_u (k := 41) (j := ((800 * u) + k)) (v := 0) (SQ_u (k := 40) (j := ((800 * u) + k)) (v := (((zup4 B 13 w 39 ((800 * u) + k) l3) 13 w 34 ((800 * u) + k)) - 2)) (SQ_u (k := 39) (j := ((800 * u) + k)) (v := l3) hq (by decide) (by decide) (by unfold r32; omega)) (by decide) (by decide) (by unfold r32; omega)) (by decide) (by decide) (by decide)) (by first | decide | omega) (by first | decide | omega) (by first | decide | omega) -- 408 f_M_groups_131
                · refine zS_g (by unfold r32; omega) ?_ -- 409
                  refine zS_i (fun h87 => ?_) (fun h87 => ?_) -- 410: (0 ≤ sm)
                  · unfold f_M_groups_277
                    refine zS_g (by first | decide | omega) ?_ -- 412
                    refine zS_g (by first | decide | omega) ?_ -- 413
                    exact ih (k + 1) _ (SQ_u (k := 41) (j := ((800 * u) + k)) (v := 2) (SQ_u (k := 40) (j := ((800 * u) + k)) (v := (((zup4 B 13 w 39 ((800 * u) + k) l3) 13 w 34 ((800 * u) + k)) - 2)) (SQ_u (k := 39) (j := ((800 * u) + k)) (v := l3) hq (by decide) (by decide) (by unfold r32; omega)) (by decide) (by decide) (by unfold r32; omega)) (by decide) (by decide) (by decide)) (by first | decide | omega) (by first | decide | omega) (by first | decide | omega) -- 414 f_M_groups_131
                  · unfold f_M_groups_277
                    refine zS_g (by first | decide | omega) ?_ -- 416
                    refine zS_g (by first | decide | omega) ?_ -- 417
                    exact ih (k + 1) _ (SQ_u (k := 41) (j := ((800 * u) + k)) (v := 1) (SQ_u (k := 40) (j := ((800 * u) + k)) (v := (((zup4 B 13 w 39 ((800 * u) + k) l3) 13 w 34 ((800 * u) + k)) - 2)) (SQ_u (k := 39) (j := ((800 * u) + k)) (v := l3) hq (by decide) (by decide) (by unfold r32; omega)) (by decide) (by decide) (by unfold r32; omega)) (by decide) (by decide) (by decide)) (by first | decide | omega) (by first | decide | omega) (by first | decide | omega) -- 418 f_M_groups_131
              · unfold f_M_groups_250
                refine zS_g (by first | decide | omega) ?_ -- 420
                refine zS_g (by unfold r32; omega) ?_ -- 421
                refine zS_i (fun h88 => ?_) (fun h88 => ?_) -- 422: (1 = 0)
                · unfold f_M_groups_277
                  refine zS_g (by first | decide | omega) ?_ -- 424
                  refine zS_g (by first | decide | omega) ?_ -- 425
                  exact ih (k + 1) _ (SQ_u (k := 41) (j := ((800 * u) + k)) (v := 0) (SQ_u (k := 40) (j := ((800 * u) + k)) (v := (((zup4 B 13 w 39 ((800 * u) + k) l3) 13 w 34 ((800 * u) + k)) - 2)) (SQ_u (k := 39) (j := ((800 * u) + k)) (v := l3) hq (by decide) (by decide) (by unfold r32; omega)) (by decide) (by decide) (by unfold r32; omega)) (by decide) (by decide) (by decide)) (by first | decide | omega) (by first | decide | omega) (by first | decide | omega) -- 426 f_M_groups_131
                · refine zS_g (by unfold r32; omega) ?_ -- 427
                  refine zS_i (fun h89 => ?_) (fun h89 => ?_) -- 428: (0 ≤ sm)
                  · unfold f_M_groups_277
                    refine zS_g (by first | decide | omega) ?_ -- 430
                    refine zS_g (by first | decide | omega) ?_ -- 431
                    exact ih (k + 1) _ (SQ_u (k := 41) (j := ((800 * u) + k)) (v := 2) (SQ_u (k := 40) (j := ((800 * u) + k)) (v := (((zup4 B 13 w 39 ((800 * u) + k) l3) 13 w 34 ((800 * u) + k)) - 2)) (SQ_u (k := 39) (j := ((800 * u) + k)) (v := l3) hq (by decide) (by decide) (by unfold r32; omega)) (by decide) (by decide) (by unfold r32; omega)) (by decide) (by decide) (by decide)) (by first | decide | omega) (by first | decide | omega) (by first | decide | omega) -- 432 f_M_groups_131
                  · unfold f_M_groups_277
                    refine zS_g (by first | decide | omega) ?_ -- 434
                    refine zS_g (by first | decide | omega) ?_ -- 435
                    exact ih (k + 1) _ (SQ_u (k := 41) (j := ((800 * u) + k)) (v := 1) (SQ_u (k := 40) (j := ((800 * u) + k)) (v := (((zup4 B 13 w 39 ((800 * u) + k) l3) 13 w 34 ((800 * u) + k)) - 2)) (SQ_u (k := 39) (j := ((800 * u) + k)) (v := l3) hq (by decide) (by decide) (by unfold r32; omega)) (by decide) (by decide) (by unfold r32; omega)) (by decide) (by decide) (by decide)) (by first | decide | omega) (by first | decide | omega) (by first | decide | omega) -- 436 f_M_groups_131
theorem s_grp61 {K : Nat} {V w u : Int} {F : zF} {B0 : zB} (hR0 : RDW V w F B0) (u0 : 0 ≤ u) (u1 : u < V) (hK : 1000 ≤ K) {rec : Int → Int → Int → Int → zF → zB → zO} {Q : Int → zF → zB → Prop} {i e l3 : Int} (i0 : 0 ≤ i) (i1 : i < e) (e1 : e ≤ B0 13 w 13 u) (g0 : 0 ≤ l3) (g1 : l3 ≤ i) (hrec : ∀ g B, 0 ≤ g → g ≤ e → SQ w B0 B → zS (rec e g w u F B) Q) : ∀ (n : Nat) (k sm : Int) (B : zB), SQ w B0 B → i ≤ k → k ≤ e → -100 * (k - i) ≤ sm → sm ≤ 100 * (k - i) → e - k < n → zS (f_M_groups_61 rec K n k sm e i l3 w u F B) (Q) := by
  intro n
  induction n with
  | zero => intro k sm B hq k0 k1 s0 s1 hk; exfalso; omega
  | succ n ih =>
    intro k sm B hq k0 k1 s0 s1 hk
    have b0 := rd_0 hR0
    have bv := rd_v hR0 u0 u1
    rw [f_M_groups_61]
    refine zS_g (by unfold r32; omega) ?_ -- 1
    refine zS_g (by unfold r32; omega) ?_ -- 2
    refine zS_i (fun h1 => ?_) (fun h1 => ?_) -- 3: (e ≤ k)
    · refine zS_g (by unfold r32; omega) ?_ -- 4
      refine zS_i (fun h2 => ?_) (fun h2 => ?_) -- 5: ((e - i) ≤ 1)
      · unfold f_M_groups_125
        exact s_grp131 hR0 u0 u1 hK i0 i1 e1 g0 g1 hrec (by first | decide | omega) (by unfold r32; omega) K i _ hq (by first | decide | omega) (by first | decide | omega) (by first | decide | omega) -- 7 f_M_groups_131
      · unfold f_M_groups_125
        exact s_grp131 hR0 u0 u1 hK i0 i1 e1 g0 g1 hrec (by first | decide | omega) (by unfold r32; omega) K i _ hq (by first | decide | omega) (by first | decide | omega) (by first | decide | omega) -- 9 f_M_groups_131
    · refine zS_b (s_sounding (K := K) (i := k) (RDW_q hR0 hq) u0 u1 (by first | decide | omega) (by have := hq.2 13 w 13 u (by first | decide | omega) (by first | decide | omega); omega)) ?_
      rintro r4 F B ⟨rfl, rfl, q3⟩
      have lkar4 := hq.2 13 w 12 u (by first | decide | omega) (by first | decide | omega)
      have lkbr4 := hq.2 13 w 21 r4 (by first | decide | omega) (by first | decide | omega)
      refine zS_g (by unfold r32; omega) ?_ -- 11
      refine zS_i (fun h6 => ?_) (fun h6 => ?_) -- 12: (r4 < 0)
      · unfold f_M_groups_105
        exact ih (k + 1) _ _ hq (by first | decide | omega) (by first | decide | omega) (by first | decide | omega) (by first | decide | omega) (by first | decide | omega) -- 14 f_M_groups_61
      · refine zS_b (s_lowest (K := K) (x := r4) (RDW_q hR0 hq) u0 u1 (by first | decide | omega) (by first | decide | omega) (by first | decide | omega)) ?_
        rintro r8 F B ⟨rfl, rfl, q7⟩
        refine zS_b (s_highest (K := K) (x := r4) (RDW_q hR0 hq) u0 u1 (by first | decide | omega) (by first | decide | omega) (by first | decide | omega)) ?_
        rintro r11 F B ⟨rfl, rfl, q10⟩
        unfold f_M_groups_105
        exact ih (k + 1) _ _ hq (by first | decide | omega) (by first | decide | omega) (by first | decide | omega) (by first | decide | omega) (by first | decide | omega) -- 18 f_M_groups_61
theorem s_grp22 {K : Nat} {V w u : Int} {F : zF} {B0 : zB} (hR0 : RDW V w F B0) (u0 : 0 ≤ u) (u1 : u < V) (hK : 1000 ≤ K) {rec : Int → Int → Int → Int → zF → zB → zO} {Q : Int → zF → zB → Prop} {i l3 : Int} (i0 : 0 ≤ i) (g0 : 0 ≤ l3) (g1 : l3 ≤ i) (hrec : ∀ e g B, i < e → e ≤ B0 13 w 13 u → 0 ≤ g → g ≤ e → SQ w B0 B → zS (rec e g w u F B) Q) : ∀ (n : Nat) (e : Int) (B : zB), SQ w B0 B → i < e → e ≤ B0 13 w 13 u → B0 13 w 13 u - e < n → zS (f_M_groups_22 rec K n e i l3 w u F B) (Q) := by
  intro n
  induction n with
  | zero => intro e B hq e0 e1 hk; exfalso; omega
  | succ n ih =>
    intro e B hq e0 e1 hk
    have b0 := rd_0 hR0
    have bv := rd_v hR0 u0 u1
    rw [f_M_groups_22]
    refine zS_g (by first | decide | omega) ?_ -- 1
    refine zS_g (by first | decide | omega) ?_ -- 2
    refine zS_g (by unfold r32; omega) ?_ -- 3
    have a1 := hq.2 13 w 13 u (by first | decide | omega) (by first | decide | omega)
    refine zS_g (by unfold r32; omega) ?_ -- 4
    refine zS_i (fun h2 => ?_) (fun h2 => ?_) -- 5: ((B 13 w 13 u) ≤ e)
    · unfold f_M_groups_54
      exact s_grp61 hR0 u0 u1 hK i0 e0 e1 g0 g1 (fun g B a b c => hrec e g B e0 e1 a b c) K i 0 _ hq (by first | decide | omega) (by first | decide | omega) (by first | decide | omega) (by first | decide | omega) (by first | decide | omega) -- 7 f_M_groups_61
    · refine zS_b (s_isTogether (K := K) (RDW_q hR0 hq) u0 u1 (by first | decide | omega) (by have := hq.2 13 w 13 u (by first | decide | omega) (by first | decide | omega); omega) (by first | decide | omega) (by have := hq.2 13 w 13 u (by first | decide | omega) (by first | decide | omega); omega)) ?_
      rintro r4 F B ⟨rfl, rfl, q3⟩
      refine zS_g (by unfold r32; omega) ?_ -- 9
      refine zS_i (fun h6 => ?_) (fun h6 => ?_) -- 10: (r4 = 0)
      · unfold f_M_groups_54
        exact s_grp61 hR0 u0 u1 hK i0 e0 e1 g0 g1 (fun g B a b c => hrec e g B e0 e1 a b c) K i 0 _ hq (by first | decide | omega) (by first | decide | omega) (by first | decide | omega) (by first | decide | omega) (by first | decide | omega) -- 12 f_M_groups_61
      · exact ih (e + 1) _ hq (by first | decide | omega) (by first | decide | omega) (by first | decide | omega) -- 13 f_M_groups_22
theorem s_grp5 {K : Nat} {V w u : Int} {F : zF} {B0 : zB} (hR0 : RDW V w F B0) (u0 : 0 ≤ u) (u1 : u < V) (hK : 1000 ≤ K) : ∀ (n : Nat) (i g : Int) (B : zB), SQ w B0 B → 0 ≤ i → i ≤ B0 13 w 13 u → 0 ≤ g → g ≤ i → B0 13 w 13 u - i < n → zS (f_M_groups_5 K n i g w u F B) (fun _ F' B' => F' = F ∧ SQ w B0 B') := by
  intro n
  induction n with
  | zero => intro i g B hq i0 i1 g0 g1 hk; exfalso; omega
  | succ n ih =>
    intro i g B hq i0 i1 g0 g1 hk
    have b0 := rd_0 hR0
    have bv := rd_v hR0 u0 u1
    rw [f_M_groups_5]
    refine zS_g (by first | decide | omega) ?_ -- 1
    refine zS_g (by first | decide | omega) ?_ -- 2
    refine zS_g (by unfold r32; omega) ?_ -- 3
    have a1 := hq.2 13 w 13 u (by first | decide | omega) (by first | decide | omega)
    refine zS_g (by unfold r32; omega) ?_ -- 4
    refine zS_i (fun h2 => ?_) (fun h2 => ?_) -- 5: ((B 13 w 13 u) ≤ i)
    · exact zS_s ⟨rfl, hq⟩
    · exact s_grp22 hR0 u0 u1 hK i0 g0 g1 (fun e g B a b c d hB => ih e g B hB (by first | decide | omega) b c d (by first | decide | omega)) K _ _ hq (by first | decide | omega) (by first | decide | omega) (by first | decide | omega) -- 7 f_M_groups_22
theorem s_groups {K : Nat} {V w u : Int} {F : zF} {B0 : zB} (hR0 : RDW V w F B0) (u0 : 0 ≤ u) (u1 : u < V) (hK : 1000 ≤ K) (hX : XS B0) : zS (f_M_groups K w u F B0) (fun _ F' B' => F' = F ∧ SQ w B0 B') := by
  have bv := rd_v hR0 u0 u1
  exact s_grp5 hR0 u0 u1 hK K 0 0 B0 (SQ_r hX) (by first | decide | omega) (by first | decide | omega) (by first | decide | omega) (by first | decide | omega) (by first | decide | omega)
theorem s_stav24 {K : Nat} {V w : Int} {F : zF} {B0 : zB} (hR0 : RDW V w F B0) (hK : 1000 ≤ K) {u : Int} (u0 : 0 ≤ u) (u1 : u < V) {rec : Int → Int → zF → zB → zO} {Q : Int → zF → zB → Prop} (hrec : ∀ B, SQ w B0 B → zS (rec (u + 1) w F B) Q) : ∀ (n : Nat) (i : Int) (B : zB), SQ w B0 B → 0 ≤ i → i ≤ B0 13 w 13 u → B0 13 w 13 u - i < n → zS (f_M_staves_24 rec K n i u w F B) Q := by
  intro n
  induction n with
  | zero => intro i B hq i0 i1 hk; exfalso; omega
  | succ n ih =>
    intro i B hq i0 i1 hk
    have b0 := rd_0 hR0
    have bv := rd_v hR0 u0 u1
    have e13 := hq.2 13 w 13 u (by first | decide | omega) (by first | decide | omega)
    rw [f_M_staves_24]
    refine zS_g (by first | decide | omega) ?_
    refine zS_g (by first | decide | omega) ?_
    refine zS_g (by unfold r32; omega) ?_
    refine zS_g (by unfold r32; omega) ?_
    refine zS_i (fun h => ?_) (fun h => ?_)
    · refine zS_b (s_groups (RDW_q hR0 hq) u0 u1 hK hq.1) ?_
      rintro r _ B1 ⟨rfl, h1⟩
      exact hrec B1 (SQ_t hq h1)
    · refine zS_b (s_ledgers (i := i) (RDW_q hR0 hq) u0 u1 i0 (by first | decide | omega)) ?_
      rintro r _ _ ⟨rfl, rfl, h1⟩
      refine zS_g (by first | decide | omega) ?_
      exact ih (i + 1) _ (SQ_u hq (by decide) (by decide) h1) (by first | decide | omega) (by first | decide | omega) (by first | decide | omega)
theorem s_stav2 {K : Nat} {V w : Int} {F : zF} {B0 : zB} (hR0 : RDW V w F B0) (hK : 1000 ≤ K) : ∀ (n : Nat) (u : Int) (B : zB), SQ w B0 B → 0 ≤ u → u ≤ V → V - u < n → zS (f_M_staves_2 K n u w F B) (fun _ F' B' => F' = F ∧ SQ w B0 B') := by
  intro n
  induction n with
  | zero => intro u B hq i0 i1 hk; exfalso; omega
  | succ n ih =>
    intro u B hq u0 u1 hk
    have b0 := rd_0 hR0
    rw [f_M_staves_2]
    refine zS_g (by first | decide | omega) ?_
    refine zS_g (by unfold r32; omega) ?_
    refine zS_g (by unfold r32; omega) ?_
    refine zS_i (fun h => ?_) (fun h => ?_)
    · exact zS_s ⟨rfl, hq⟩
    · have u2 : u < V := by omega
      have bv := rd_v hR0 u0 u2
      refine zS_b (s_holds (RDW_q hR0 hq) u0 u2 hK hq.1) ?_
      rintro r1 _ B1 ⟨rfl, h1⟩
      have q1 := SQ_t hq h1
      refine zS_b (s_accidentals (RDW_q hR0 q1) u0 u2 hK q1.1) ?_
      rintro r2 _ B2 ⟨rfl, h2⟩
      exact s_stav24 hR0 hK u0 u2 (fun B hB => ih (u + 1) B hB (by first | decide | omega) (by first | decide | omega) (by first | decide | omega)) K 0 B2 (SQ_t q1 h2) (by first | decide | omega) (by first | decide | omega) (by first | decide | omega)
theorem s_staves {K : Nat} {V w : Int} {F : zF} {B0 : zB} (hR0 : RDW V w F B0) (hK : 1000 ≤ K) (hX : XS B0) : zS (f_M_staves K w F B0) (fun _ F' B' => F' = F ∧ SQ w B0 B') := by
  have b0 := rd_0 hR0
  exact s_stav2 hR0 hK K 0 B0 (SQ_r hX) (by first | decide | omega) (by first | decide | omega) (by first | decide | omega)
end
