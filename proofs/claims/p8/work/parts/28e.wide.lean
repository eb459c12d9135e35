section
/-! ===== how wide a column is, reference ===== -/
theorem s_wid134 {K : Nat} {V w b j d7 : Int} {F : zF} {B : zB} (hR : RDW V w F B) (hX : XS B) (hb : r32 b) (j0 : 0 ≤ j ∧ j < 3200) (j3 : (0 ≤ B 13 w 43 j ∧ B 13 w 43 j ≤ 1000000000000) ∧ (1 ≤ B 13 w 44 j ∧ B 13 w 44 j ≤ 812851200)) (d0 : 0 ≤ d7 ∧ d7 ≤ 9) {u : Int} (u0 : 0 ≤ u) (u1 : u < V) {rec : Int → Int → Int → Int → Int → Int → Int → zF → zB → zO} (hrec : ∀ f dt, (f = 0 ∨ f = 1) → 0 ≤ dt → dt ≤ 2 → zS (rec (u + 1) f dt d7 w b j F B) (fun r F' B' => F' = F ∧ B' = B ∧ 0 ≤ r ∧ r ≤ 100)) : ∀ (n : Nat) (i f dt : Int), (f = 0 ∨ f = 1) → 0 ≤ dt → dt ≤ 2 → 0 ≤ i → i ≤ B 13 w 13 u → B 13 w 13 u - i < n → zS (f_M_wide_134 rec K n i u f dt d7 w b j F B) (fun r F' B' => F' = F ∧ B' = B ∧ 0 ≤ r ∧ r ≤ 100) := by
  intro n
  induction n with
  | zero => intro i f dt hf t0 t1 i0 i1 hk; exfalso; omega
  | succ n ih =>
    intro i f dt hf t0 t1 i0 i1 hk
    have b0 := rd_0 hR
    have bb := (bar_v b0.2.2.2.1 (rd_5 hR)).2.2.1
    have bv := rd_v hR u0 u1
    rw [f_M_wide_134]
    refine zS_g (by first | decide | omega) ?_ -- 1
    refine zS_g (by first | decide | omega) ?_ -- 2
    refine zS_g (by unfold r32; omega) ?_ -- 3
    refine zS_g (by unfold r32; omega) ?_ -- 4
    refine zS_i (fun h1 => ?_) (fun h1 => ?_) -- 5: ((B 13 w 13 u) ≤ i)
    · exact hrec _ _ (by first | decide | omega) (by first | decide | omega) (by first | decide | omega) -- 6 rec
    · refine zS_g (by first | decide | omega) ?_ -- 7
      have a2 := rd_n (u := u) (y := ((800 * u) + i)) hR (by first | decide | omega) (by first | decide | omega) (by first | decide | omega) (by first | decide | omega)
      refine zS_g (by unfold r32; omega) ?_ -- 8
      refine zS_g (by unfold r32; omega) ?_ -- 9
      refine zS_i (fun h3 => ?_) (fun h3 => ?_) -- 10: ((B 13 w 31 ((800 * u) + i)) = b)
      · refine zS_g (by first | decide | omega) ?_ -- 11
        obtain ⟨p4, p4a, p4b, p4c⟩ := rd_q (u := u) (y := ((800 * u) + i)) hR (by first | decide | omega) (by first | decide | omega) (by first | decide | omega) (by first | decide | omega)
        have p4d := nd_r (p := p4) (by first | decide | omega) (by first | decide | omega)
        refine zS_g (by unfold r64; omega) ?_ -- 12
        refine zS_g (by unfold r64; omega) ?_ -- 13
        refine zS_i (fun h5 => ?_) (fun h5 => ?_) -- 14: ((zcmp (B 13 w 32 ((800 * u) + i)) (B 13 w 43 j)) = 0)
        · refine zS_g (by unfold r64; omega) ?_ -- 15
          refine zS_g (by unfold r64; omega) ?_ -- 16
          refine zS_i (fun h6 => ?_) (fun h6 => ?_) -- 17: ((zcmp (B 13 w 33 ((800 * u) + i)) (B 13 w 44 j)) = 0)
          · refine zS_g (by unfold r32; omega) ?_ -- 18
            refine zS_i (fun h7 => ?_) (fun h7 => ?_) -- 19: (f = 0)
            · have a8 := hX.2 w ((800 * u) + i)
              refine zS_g (by unfold r32; omega) ?_ -- 20
              refine zS_i (fun h9 => ?_) (fun h9 => ?_) -- 21: ((B 13 w 37 ((800 * u) + i)) ≤ 0)
              · unfold f_M_wide_225
                refine zS_g (by first | decide | omega) ?_ -- 23
                refine zS_g (by first | decide | omega) ?_ -- 24
                refine zS_g (by unfold r32; omega) ?_ -- 25
                refine zS_g (by unfold r32; omega) ?_ -- 26
                refine zS_i (fun h10 => ?_) (fun h10 => ?_) -- 27: ((B 13 w 35 ((800 * u) + i)) ≤ dt)
                · unfold f_M_wide_248
                  exact ih _ _ _ (by first | decide | omega) (by first | decide | omega) (by first | decide | omega) (by first | decide | omega) (by first | decide | omega) (by first | decide | omega) -- 29 f_M_wide_134
                · unfold f_M_wide_248
                  exact ih _ _ _ (by first | decide | omega) (by first | decide | omega) (by first | decide | omega) (by first | decide | omega) (by first | decide | omega) (by first | decide | omega) -- 31 f_M_wide_134
              · unfold f_M_wide_220
                unfold f_M_wide_225
                refine zS_g (by first | decide | omega) ?_ -- 34
                refine zS_g (by first | decide | omega) ?_ -- 35
                refine zS_g (by unfold r32; omega) ?_ -- 36
                refine zS_g (by unfold r32; omega) ?_ -- 37
                refine zS_i (fun h11 => ?_) (fun h11 => ?_) -- 38: ((B 13 w 35 ((800 * u) + i)) ≤ dt)
                · unfold f_M_wide_248
                  exact ih _ _ _ (by first | decide | omega) (by first | decide | omega) (by first | decide | omega) (by first | decide | omega) (by first | decide | omega) (by first | decide | omega) -- 40 f_M_wide_134
                · unfold f_M_wide_248
                  exact ih _ _ _ (by first | decide | omega) (by first | decide | omega) (by first | decide | omega) (by first | decide | omega) (by first | decide | omega) (by first | decide | omega) -- 42 f_M_wide_134
            · unfold f_M_wide_220
              unfold f_M_wide_225
              refine zS_g (by first | decide | omega) ?_ -- 45
              refine zS_g (by first | decide | omega) ?_ -- 46
              refine zS_g (by unfold r32; omega) ?_ -- 47
              refine zS_g (by unfold r32; omega) ?_ -- 48
              refine zS_i (fun h12 => ?_) (fun h12 => ?_) -- 49: ((B 13 w 35 ((800 * u) + i)) ≤ dt)
              · unfold f_M_wide_248
                exact ih _ _ _ (by first | decide | omega) (by first | decide | omega) (by first | decide | omega) (by first | decide | omega) (by first | decide | omega) (by first | decide | omega) -- 51 f_M_wide_134
              · unfold f_M_wide_248
                exact ih _ _ _ (by first | decide | omega) (by first | decide | omega) (by first | decide | omega) (by first | decide | omega) (by first | decide | omega) (by first | decide | omega) -- 53 f_M_wide_134
          · unfold f_M_wide_248
            exact ih _ _ _ (by first | decide | omega) (by first | decide | omega) (by first | decide | omega) (by first | decide | omega) (by first | decide | omega) (by first | decide | omega) -- 55 f_M_wide_134
        · unfold f_M_wide_248
          exact ih _ _ _ (by first | decide | omega) (by first | decide | omega) (by first | decide | omega) (by first | decide | omega) (by first | decide | omega) (by first | decide | omega) -- 57 f_M_wide_134
      · unfold f_M_wide_248
        exact ih _ _ _ (by first | decide | omega) (by first | decide | omega) (by first | decide | omega) (by first | decide | omega) (by first | decide | omega) (by first | decide | omega) -- 59 f_M_wide_134
theorem s_wid122 {K : Nat} {V w b j d7 : Int} {F : zF} {B : zB} (hR : RDW V w F B) (hX : XS B) (hb : r32 b) (j0 : 0 ≤ j ∧ j < 3200) (j3 : (0 ≤ B 13 w 43 j ∧ B 13 w 43 j ≤ 1000000000000) ∧ (1 ≤ B 13 w 44 j ∧ B 13 w 44 j ≤ 812851200)) (d0 : 0 ≤ d7 ∧ d7 ≤ 9) (hK : 1000 ≤ K) : ∀ (n : Nat) (u f dt : Int), (f = 0 ∨ f = 1) → 0 ≤ dt → dt ≤ 2 → 0 ≤ u → u ≤ V → V - u < n → zS (f_M_wide_122 K n u f dt d7 w b j F B) (fun r F' B' => F' = F ∧ B' = B ∧ 0 ≤ r ∧ r ≤ 100) := by
  intro n
  induction n with
  | zero => intro u f dt hf t0 t1 u0 u1 hk; exfalso; omega
  | succ n ih =>
    intro u f dt hf t0 t1 u0 u1 hk
    have b0 := rd_0 hR
    have bb := (bar_v b0.2.2.2.1 (rd_5 hR)).2.2.1
    rw [f_M_wide_122]
    refine zS_g (by first | decide | omega) ?_ -- 1
    refine zS_g (by unfold r32; omega) ?_ -- 2
    refine zS_g (by unfold r32; omega) ?_ -- 3
    refine zS_i (fun h1 => ?_) (fun h1 => ?_) -- 4: ((F 13 w 1) ≤ u)
    · refine zS_g (by unfold r32; omega) ?_ -- 5
      refine zS_i (fun h2 => ?_) (fun h2 => ?_) -- 6: (f = 0)
      · unfold f_M_wide_278
        exact zS_s ⟨rfl, rfl, (by first | decide | omega), (by first | decide | omega)⟩
      · unfold f_M_wide_278
        exact zS_s ⟨rfl, rfl, (by first | decide | omega), (by first | decide | omega)⟩
    · have bv := rd_v hR u0 (show u < V by omega)
      exact s_wid134 hR hX hb j0 j3 d0 u0 (by first | decide | omega) (fun f dt a b c => ih _ _ _ a b c (by first | decide | omega) (by first | decide | omega) (by first | decide | omega)) K 0 _ _ (by first | decide | omega) (by first | decide | omega) (by first | decide | omega) (by first | decide | omega) (by first | decide | omega) (by first | decide | omega) -- 11 f_M_wide_134
theorem toL_R (x : Int64) : r64 x.toInt := ⟨Int64.le_toInt _, Int.lt_of_le_of_lt (Int64.toInt_le x) (by decide)⟩
theorem zlshl_R (a b : Int) : r64 (zlshl a b) := toL_R _
theorem zlshl10 {a : Int} (h0 : 0 ≤ a) (h1 : a < 1099511627776) : zlshl a 10 = a * 1024 := by
  obtain ⟨n, rfl⟩ := Int.eq_ofNat_of_zero_le h0
  have k1 : (BitVec.ofInt 64 (n : Int)).toNat = n := by
    rw [BitVec.toNat_ofInt]
    show ((n : Int) % 18446744073709551616).toNat = n
    omega
  have e0 : (BitVec.ofInt 64 (n : Int) <<< (10 : Nat)).toNat = n * 1024 := by
    rw [BitVec.toNat_shiftLeft, k1, Nat.shiftLeft_eq]
    show n * 1024 % 18446744073709551616 = n * 1024
    omega
  show (BitVec.ofInt 64 (n : Int) <<< (10 : Nat)).toInt = _
  rw [BitVec.toInt_eq_toNat_of_lt (by rw [e0]; omega), e0]
  omega
theorem barV_6 {n d : Int} (hn : 1 ≤ n ∧ n ≤ 12) (hd : d = 2 ∨ d = 4 ∨ d = 8 ∨ d = 16) : barV n d ≤ 4877107200 := by
  unfold barV
  rcases hd with rfl | rfl | rfl | rfl
  · rw [show (812851200 : Int) / 2 = 406425600 by decide]; omega
  · rw [show (812851200 : Int) / 4 = 203212800 by decide]; omega
  · rw [show (812851200 : Int) / 8 = 101606400 by decide]; omega
  · rw [show (812851200 : Int) / 16 = 50803200 by decide]; omega
/-- only the fraction at hand changes -/
def CG (F F' : zF) : Prop := ∀ c i k, ¬ (c = 14 ∧ i = 0 ∧ k ≤ 1) → F' c i k = F c i k
theorem CG_t {F F1 F2 : zF} (h : CG F F1) (h' : CG F1 F2) : CG F F2 := fun c i k n => by rw [h' c i k n, h c i k n]
theorem RDW_g {V w : Int} {F F' : zF} {B : zB} (h : RDW V w F B) (g : CG F F') : RDW V w F' B := RDW_f h (fun k _ _ => g 13 w k (by first | decide | omega)) (fun _ _ _ _ => rfl)
theorem s_wid92 {K : Nat} {V w b j D : Int} {F : zF} {B : zB} (hK : 1000 ≤ K) (hR : RDW V w F B) (hX : XS B) (hb : r32 b) (j0 : 0 ≤ j ∧ j < 3200) (j3 : (0 ≤ B 13 w 43 j ∧ B 13 w 43 j ≤ 1000000000000) ∧ (1 ≤ B 13 w 44 j ∧ B 13 w 44 j ≤ 812851200)) (D0 : 0 ≤ D) (D1 : D ≤ 4877107200) (e1 : F 14 0 1 = de D) : ∀ (n : Nat) (k : Int), 0 ≤ k → k ≤ 9 → 9 - k < n → zS (f_M_wide_92 K n k (128 * nu D) w b j F B) (fun r F' B' => F' = F ∧ B' = B ∧ 0 ≤ r ∧ r ≤ 100) := by
  have nr := nd_r D0 (by first | decide | omega)
  intro n
  induction n with
  | zero => intro k _ _ hk; exfalso; omega
  | succ n ih =>
    intro k k0 k1 hk
    rw [f_M_wide_92]
    refine zS_g (by unfold r64; omega) ?_
    refine zS_g (zlshl_R _ _) ?_
    refine zS_i (fun h => ?_) (fun h => ?_)
    · exact s_wid122 hR hX hb j0 j3 ⟨k0, k1⟩ hK K 0 0 0 (Or.inl rfl) (by decide) (by decide) (by decide) (by have := rd_0 hR; omega) (by have := rd_0 hR; omega)
    · by_cases z : k = 9
      · exfalso
        apply h
        rw [z, e1, show (9 : Int) + 1 = 10 by decide, zlshl10 (by first | decide | omega) (by first | decide | omega), zcmp_lt]
        obtain ⟨f0, _, _, f1⟩ := FR_r D0
        have hw : WW = 812851200 := rfl
        have : D * de D ≤ 4877107200 * de D := Int.mul_le_mul_of_nonneg_right D1 (by first | decide | omega)
        rw [hw] at f1
        omega
      · exact ih (k + 1) (by first | decide | omega) (by first | decide | omega) (by first | decide | omega)
theorem s_wid64 {K : Nat} {V w b j a c p q : Int} {F : zF} {B : zB} (hK : 812851200 < K) (hR : RDW V w F B) (hX : XS B) (hb : r32 b) (j0 : 0 ≤ j ∧ j < 3200) (hf : FR a c p) (hq : CP w B j q) (q0 : 0 ≤ q) (q1 : q ≤ p) (p1 : p ≤ 4877107200) : ∃ r F', f_M_wide_64 K w b j a c F B = some (r, F', B) ∧ CG F F' ∧ 0 ≤ r ∧ r ≤ 100 := by
  have nr := nd_r q0 (by first | decide | omega)
  have b0 := rd_0 hR
  unfold f_M_wide_64
  rw [if_pos b0.1, if_pos j0, hq.1, hq.2, L_minusR hK hf (FR_r q0) q1 (by first | decide | omega), zb_s, fr_0]
  obtain ⟨r, F', B', e, rfl, rfl, h⟩ := s_wid92 (K := K) (D := p - q) (by first | decide | omega) (RDW_fr (p := p - q) hR) hX hb j0 (by rw [hq.1, hq.2]; exact nr) (by first | decide | omega) (by first | decide | omega) fr_1 K 0 (by decide) (by decide) (by first | decide | omega)
  exact ⟨r, _, e, fun c i k n => fr_n n, h⟩
theorem s_wide {K : Nat} {V w b j e : Int} {P : Int → Int} {F : zF} {B : zB} (hK : 812851200 < K) (hR : RDW V w F B) (hX : XS B) (b1 : 0 ≤ b ∧ b < 100) (he : B 13 w 42 (b + 1) = e) (j0 : 0 ≤ j) (j1 : j < e) (e1 : e ≤ 3200) (hP : ∀ t, j ≤ t → t < e → CP w B t (P t) ∧ 0 ≤ P t ∧ P t < barV (F 13 w 4) (F 13 w 5)) (hs : j + 1 < e → P j ≤ P (j + 1)) : ∃ r F', f_M_wide K w b j F B = some (r, F', B) ∧ CG F F' ∧ 0 ≤ r ∧ r ≤ 100 := by
  have b0 := rd_0 hR
  have b6 := barV_6 b0.2.2.2.1 (rd_5 hR)
  have bv := bar_v b0.2.2.2.1 (rd_5 hR)
  obtain ⟨k1, k2, k3⟩ := hP j (Int.le_refl _) j1
  have r4 : r32 (F 13 w 4) := by unfold r32; omega
  have r5 : r32 (F 13 w 5) := by unfold r32; omega
  unfold f_M_wide
  rw [if_pos b0.1, if_pos (by first | decide | omega), if_pos (by unfold r32; omega), he, if_pos (by unfold r32; omega)]
  by_cases z : j + 1 = e
  · rw [if_pos z]
    unfold f_M_wide_19
    rw [if_pos (by decide), if_neg (by decide), if_pos b0.1, if_pos r4]
    unfold f_M_wide_43
    rw [if_pos (by decide), if_neg (by decide), if_pos b0.1, if_pos r5]
    exact s_wid64 hK hR hX (by unfold r32; omega) (by first | decide | omega) bv.1 k1 k2 (by first | decide | omega) b6
  · rw [if_neg z]
    unfold f_M_wide_19
    rw [if_pos (by decide), if_pos rfl, if_pos b0.1, if_pos (by first | decide | omega)]
    unfold f_M_wide_43
    rw [if_pos (by decide), if_pos rfl, if_pos b0.1, if_pos (by first | decide | omega)]
    obtain ⟨q1, q2, q3⟩ := hP (j + 1) (by first | decide | omega) (by first | decide | omega)
    rw [q1.1, q1.2]
    exact s_wid64 hK hR hX (by unfold r32; omega) (by first | decide | omega) (FR_r q2) k1 k2 (hs (by first | decide | omega)) (by first | decide | omega)
end
