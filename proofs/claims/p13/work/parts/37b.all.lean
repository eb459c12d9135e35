section
/-! ===== every call, and the claim's pure half ===== -/
theorem lloop_ofI {Kr : Nat} {x : Int} {sc : Int → Int} {n : Int} (hn : n ≤ 4608) (hn0 : 0 ≤ n) {Inv : Int → zK → zF → zB → zF → zB → Prop}
    (hstep : ∀ {i : Int} {K : zK} {F Fm : zF} {B Bm : zB}, 0 ≤ i → i + 9 ≤ n → Inv i K F B Fm Bm → ∃ K' F' B' Fm' Bm', lstep Kr x sc n i K F B Fm Bm = some (K', F', B', Fm', Bm') ∧ Inv (i + 9) K' F' B' Fm' Bm') :
    ∀ (f : Nat) {i : Int} {K : zK} {F Fm : zF} {B Bm : zB}, 0 ≤ i → i ≤ 4617 → (n + 1 - i).toNat < f → Inv i K F B Fm Bm → ∃ i' K' F' B' Fm' Bm', lloop Kr x sc n f i K F B Fm Bm = some (K', F', B', Fm', Bm') ∧ Inv i' K' F' B' Fm' Bm' := by
  intro f
  induction f with
  | zero =>
    intro i K F Fm B Bm h0 h1 hf hI
    omega
  | succ f ih =>
    intro i K F Fm B Bm h0 h1 hf hI
    unfold lloop
    rw [if_pos (show r32 i from ⟨by omega, by omega⟩), if_pos (show r32 (n - 9) from ⟨by omega, by omega⟩)]
    by_cases h : n - 9 < i
    · rw [if_pos h]
      exact ⟨i, K, F, B, Fm, Bm, rfl, hI⟩
    · rw [if_neg h, if_pos (show 0 ≤ i ∧ i < n from ⟨h0, by omega⟩), if_pos (zand31 _ _)]
      obtain ⟨K1, F1, B1, Fm1, Bm1, e, hI1⟩ := hstep h0 (by omega) hI
      rw [e]
      exact ih (by omega) (by omega) (by omega) hI1
theorem slN_0 (p : Int) : 0 ≤ slN p := by
  unfold slN
  split <;> omega
theorem slE_0 (B : zB) (p : Int) : 0 ≤ slE B p := by
  unfold slE
  split
  · omega
  · unfold em
    have q : ∀ a : Int, 0 ≤ (if a < 0 then 1 else 0 : Int) := fun a => by split <;> omega
    have q0 := q (B 6 p 0 0)
    have q1 := q (B 6 p 0 1)
    have q2 := q (B 6 p 0 2)
    have q3 := q (B 6 p 0 3)
    omega
theorem room_c {a b c d e f g x : Nat} (h1 : a ≤ 2401) (h2 : b ≤ 3) (h4 : c ≤ 12) (h5 : d ≤ 3) (h6 : e ≤ 3) (h8 : f ≤ 2) (h9 : g ≤ 3) : 282 + (3 * a + 12 * b + 17 * c + 14 * d + 2 * e + 10 * f + 18 * g - x) ≤ 600000 := by omega
theorem room_s {a b c d e f g x : Nat} (h1 : a ≤ 2401) (h2 : b ≤ 3) (h4 : c ≤ 12) (h5 : d ≤ 3) (h6 : e ≤ 3) (h8 : f ≤ 2) (h9 : g ≤ 3) : 716534 + (26 * a + 10321 * b + 10688 * c + 23032 * d + 18 * e + 2436 * f + 5246 * g - x) ≤ 7302250 := by omega
theorem IV_room {cc : Int} {Km : Nat} {K K0 : zK} {F Fm : zF} {B Bm : zB} (h : IV cc Km K F B Fm Bm) : 282 + cwC K0 K ≤ 600000 ∧ 716534 + swC K0 K ≤ 7302250 := by
  obtain ⟨p, p0, p1, w, w0, w1, ⟨⟨-, -, -, -, -, -, -, hG, -⟩, -, -, -, -, ⟨⟨-, hKn⟩, -⟩, -⟩, -, ⟨-, -, hO, -⟩, -⟩ := h
  unfold IG at hG
  unfold IKn ngk at hKn
  have a1 := slN_0 p
  have a2 := slN_0 p0
  have a3 := slN_0 p1
  have b1 := slE_0 B p
  have b2 := slE_0 B p0
  have b3 := slE_0 B p1
  have c1 := ng3_0 (K.2 6) (F 6 0 8) (F 6 1 8) (F 6 2 8)
  have c2 := ng3_0 (K.2 6) (F 6 0 9) (F 6 1 9) (F 6 2 9)
  have c3 := ng3_0 (K.2 6) (F 6 0 12) (F 6 1 12) (F 6 2 12)
  have o : K.2 8 ≤ 2 := by omega
  obtain ⟨g1, g2, g3⟩ := hG
  obtain ⟨k1, k2, k3, k4⟩ := hKn
  have l6 : (K.2 6).toNat ≤ 3 := by clear hO; omega
  have l4 : (K.2 4).toNat ≤ 12 := by clear hO; omega
  have l1 : (K.2 1).toNat ≤ 2401 := by clear hO; omega
  have l2 : (K.2 2).toNat ≤ 3 := by clear hO; omega
  have l5 : (K.2 5).toNat ≤ 3 := by clear hO; omega
  have l9 : (K.2 9).toNat ≤ 3 := by clear hO; omega
  have l8 : (K.2 8).toNat ≤ 2 := by clear hO; omega
  unfold cwC swC cwN swN
  exact ⟨room_c l1 l2 l4 l5 l6 l8 l9, room_s l1 l2 l4 l5 l6 l8 l9⟩
theorem IV_step {sc : Int → Int} (hsc : ∀ j, r32 (sc j)) {n i : Int} {K : zK} {F Fm : zF} {B Bm : zB} (hn4 : n ≤ 4608) (hi : 0 ≤ i) (hn : i + 9 ≤ n) (hI : IV (112 * i) 1099511627776 K F B Fm Bm) : ∃ K' F' B' Fm' Bm', lstep 1099511627776 0 sc n i K F B Fm Bm = some (K', F', B', Fm', Bm') ∧ IV (112 * (i + 9)) 1099511627776 K' F' B' Fm' Bm' := by
  unfold lstep
  by_cases h0 : zand (sc i) 31 = 0
  · rw [if_pos h0]
    obtain ⟨r1, F1, B1, r2, F2, B2, h1, h2, hI1⟩ := p_feed (sc (i + 1)) (sc (i + 2)) (sc (i + 3)) (sc (i + 4)) (sc (i + 5)) (hsc _) (hsc _) (hsc _) (hsc _) (hsc _) hI
    exact ⟨_, _, _, _, _, lst_0 hi hn (IV_12 hI) h1 h2, IV_mono (by omega) hI1⟩
  rw [if_neg h0]
  by_cases h1 : zand (sc i) 31 = 1
  · rw [if_pos h1]
    obtain ⟨r1, F1, B1, r2, F2, B2, h1, h2, hI1, he, hr⟩ := p_end (sc (i + 1)) (hsc _) hI
    exact ⟨_, _, _, _, _, lst_1 hi hn (IV_12 hI) h1 h2, IV_mono (by omega) hI1⟩
  rw [if_neg h1]
  by_cases h2 : zand (sc i) 31 = 2
  · rw [if_pos h2]
    obtain ⟨r1, F1, B1, K1, r2, F2, B2, h1, h2, hI1⟩ := p_read (sc (i + 1)) (hsc _) hI
    exact ⟨_, _, _, _, _, lst_2 hi hn (IV_12 hI) h1 h2, IV_mono (by omega) hI1⟩
  rw [if_neg h2]
  by_cases h3 : zand (sc i) 31 = 3
  · rw [if_pos h3]
    obtain ⟨r1, F1, B1, K1, r2, F2, B2, h1, h2, hI1⟩ := p_look (sc (i + 1)) (sc (i + 2)) (hsc _) (hsc _) hI
    exact ⟨_, _, _, _, _, lst_3 hi hn (IV_12 hI) h1 h2, IV_mono (by omega) hI1⟩
  rw [if_neg h3]
  by_cases h4 : zand (sc i) 31 = 4
  · rw [if_pos h4]
    obtain ⟨r1, F1, B1, r2, F2, B2, h1, h2, hI1⟩ := p_voice (sc (i + 1)) (sc (i + 2)) (sc (i + 3)) (hsc _) (hsc _) (hsc _) hI
    exact ⟨_, _, _, _, _, lst_4 hi hn (IV_12 hI) h1 h2, IV_mono (by omega) hI1⟩
  rw [if_neg h4]
  by_cases h5 : zand (sc i) 31 = 5
  · rw [if_pos h5]
    obtain ⟨r1, F1, B1, r2, F2, B2, h1, h2, hI1⟩ := p_name (sc (i + 1)) (sc (i + 2)) (hsc _) (hsc _) hI
    exact ⟨_, _, _, _, _, lst_5 hi hn (IV_12 hI) h1 h2, IV_mono (by omega) hI1⟩
  rw [if_neg h5]
  by_cases h6 : zand (sc i) 31 = 6
  · rw [if_pos h6]
    obtain ⟨r1, F1, B1, r2, F2, B2, h1, h2, hI1⟩ := p_event (sc (i + 1)) (sc (i + 2)) (sc (i + 3)) (sc (i + 4)) (hsc _) (hsc _) (hsc _) (hsc _) hI
    exact ⟨_, _, _, _, _, lst_6 hi hn (IV_12 hI) h1 h2, IV_mono (by omega) hI1⟩
  rw [if_neg h6]
  by_cases h7 : zand (sc i) 31 = 7
  · rw [if_pos h7]
    obtain ⟨r1, F1, B1, r2, F2, B2, h1, h2, hI1⟩ := p_pitch (sc (i + 1)) (sc (i + 2)) (sc (i + 3)) (sc (i + 4)) (sc (i + 5)) (hsc _) (hsc _) (hsc _) (hsc _) (hsc _) hI
    exact ⟨_, _, _, _, _, lst_7 hi hn (IV_12 hI) h1 h2, IV_mono (by omega) hI1⟩
  rw [if_neg h7]
  by_cases h8 : zand (sc i) 31 = 8
  · rw [if_pos h8]
    obtain ⟨r1, F1, B1, r2, F2, B2, h1, h2, hI1⟩ := p_note (sc (i + 1)) (sc (i + 2)) (sc (i + 3)) (sc (i + 4)) (hsc _) (hsc _) (hsc _) (hsc _) hI
    exact ⟨_, _, _, _, _, lst_8 hi hn (IV_12 hI) h1 h2, IV_mono (by omega) hI1⟩
  rw [if_neg h8]
  by_cases h9 : zand (sc i) 31 = 9
  · rw [if_pos h9]
    obtain ⟨r1, F1, B1, K1, r2, F2, B2, h1, h2, hI1⟩ := p_lines (sc (i + 1)) (sc (i + 2)) (hsc _) (hsc _) hI
    exact ⟨_, _, _, _, _, lst_9 hi hn (IV_12 hI) h1 h2, IV_mono (by omega) hI1⟩
  rw [if_neg h9]
  by_cases h10 : zand (sc i) 31 = 10
  · rw [if_pos h10]
    obtain ⟨r1, F1, B1, r2, F2, B2, h1, h2, hI1⟩ := p_line (sc (i + 1)) (sc (i + 2)) (sc (i + 3)) (hsc _) (hsc _) (hsc _) hI
    exact ⟨_, _, _, _, _, lst_10 hi hn (IV_12 hI) h1 h2, IV_mono (by omega) hI1⟩
  rw [if_neg h10]
  by_cases h11 : zand (sc i) 31 = 11
  · rw [if_pos h11]
    obtain ⟨r1, F1, B1, r2, F2, B2, h1, h2, hI1, he⟩ := q_x (sc (i + 1)) (sc (i + 2)) (sc (i + 3)) (hsc _) (hsc _) (hsc _) hI
    exact ⟨_, _, _, _, _, lst_11 hi hn (IV_12 hI) h1 h2 he, IV_mono (by omega) hI1⟩
  rw [if_neg h11]
  by_cases h12 : zand (sc i) 31 = 12
  · rw [if_pos h12]
    obtain ⟨r1, F1, B1, K1, r2, F2, B2, h1, h2, hI1⟩ := p_perform (sc (i + 1)) (hsc _) hI
    exact ⟨_, _, _, _, _, lst_12 hi hn (IV_12 hI) h1 h2, IV_mono (by omega) hI1⟩
  rw [if_neg h12]
  by_cases h13 : zand (sc i) 31 = 13
  · rw [if_pos h13]
    obtain ⟨r1, F1, B1, r2, F2, B2, h1, h2, hI1⟩ := p_stroke (sc (i + 1)) (sc (i + 2)) (sc (i + 3)) (hsc _) (hsc _) (hsc _) hI
    exact ⟨_, _, _, _, _, lst_13 hi hn (IV_12 hI) h1 h2, IV_mono (by omega) hI1⟩
  rw [if_neg h13]
  by_cases h14 : zand (sc i) 31 = 14
  · rw [if_pos h14]
    obtain ⟨r1, F1, B1, r2, F2, B2, h1, h2, hI1⟩ := p_file (sc (i + 1)) (hsc _) hI
    exact ⟨_, _, _, _, _, lst_14 hi hn (IV_12 hI) h1 h2, IV_mono (by omega) hI1⟩
  rw [if_neg h14]
  by_cases h15 : zand (sc i) 31 = 15
  · rw [if_pos h15]
    obtain ⟨r1, F1, B1, r2, F2, B2, h1, h2, hI1⟩ := p_out (sc (i + 1)) (hsc _) hI
    exact ⟨_, _, _, _, _, lst_15 hi hn (IV_12 hI) h1 h2, IV_mono (by omega) hI1⟩
  rw [if_neg h15]
  by_cases h16 : zand (sc i) 31 = 16
  · rw [if_pos h16]
    obtain ⟨r1, F1, B1, r2, F2, B2, h1, h2, hI1⟩ := p_again  hI
    exact ⟨_, _, _, _, _, lst_16 hi hn (IV_12 hI) h1 h2, IV_mono (by omega) hI1⟩
  rw [if_neg h16]
  by_cases h17 : zand (sc i) 31 = 17
  · rw [if_pos h17]
    obtain ⟨r1, F1, B1, K1, r2, F2, B2, h1, h2, hI1⟩ := p_open  hI
    exact ⟨_, _, _, _, _, lst_17 hi hn (IV_12 hI) h1 h2, IV_mono (by omega) hI1⟩
  rw [if_neg h17]
  by_cases h18 : zand (sc i) 31 = 18
  · rw [if_pos h18]
    obtain ⟨r1, F1, B1, r2, F2, B2, h1, h2, hI1⟩ := p_track (sc (i + 1)) (hsc _) hI
    exact ⟨_, _, _, _, _, lst_18 hi hn (IV_12 hI) h1 h2, IV_mono (by omega) hI1⟩
  rw [if_neg h18]
  by_cases h19 : zand (sc i) 31 = 19
  · rw [if_pos h19]
    obtain ⟨r1, F1, B1, r2, F2, B2, h1, h2, hI1⟩ := p_sound (sc (i + 1)) (sc (i + 2)) (hsc _) (hsc _) hI
    exact ⟨_, _, _, _, _, lst_19 hi hn (IV_12 hI) h1 h2, IV_mono (by omega) hI1⟩
  rw [if_neg h19]
  by_cases h20 : zand (sc i) 31 = 20
  · rw [if_pos h20]
    obtain ⟨r1, F1, B1, r2, F2, B2, h1, h2, hI1⟩ := p_down (sc (i + 1)) (hsc _) hI
    exact ⟨_, _, _, _, _, lst_20 hi hn (IV_12 hI) h1 h2, IV_mono (by omega) hI1⟩
  rw [if_neg h20]
  by_cases h21 : zand (sc i) 31 = 21
  · rw [if_pos h21]
    obtain ⟨r1, F1, B1, r2, F2, B2, h1, h2, hI1⟩ := p_play (sc (i + 1)) (sc (i + 2)) (hsc _) (hsc _) (by omega) hI
    exact ⟨_, _, _, _, _, lst_21 hi hn (IV_12 hI) h1 h2, IV_mono (by omega) hI1⟩
  rw [if_neg h21]
  by_cases h22 : zand (sc i) 31 = 22
  · rw [if_pos h22]
    obtain ⟨r1, F1, B1, r2, F2, B2, h1, h2, hI1⟩ := p_sample (sc (i + 1)) (sc (i + 2)) (sc (i + 3)) (hsc _) (hsc _) (hsc _) hI
    exact ⟨_, _, _, _, _, lst_22 hi hn (IV_12 hI) h1 h2, IV_mono (by omega) hI1⟩
  rw [if_neg h22]
  by_cases h23 : zand (sc i) 31 = 23
  · rw [if_pos h23]
    obtain ⟨r1, F1, B1, K1, r2, F2, B2, h1, h2, hI1⟩ := p_moment (sc (i + 1)) (sc (i + 2)) (sc (i + 3)) (hsc _) (hsc _) (hsc _) hI
    exact ⟨_, _, _, _, _, lst_23 hi hn (IV_12 hI) h1 h2, IV_mono (by omega) hI1⟩
  rw [if_neg h23]
  by_cases h24 : zand (sc i) 31 = 24
  · rw [if_pos h24]
    obtain ⟨r1, F1, B1, K1, r2, F2, B2, h1, h2, hI1⟩ := p_fault (sc (i + 1)) (sc (i + 2)) (sc (i + 3)) (hsc _) (hsc _) (hsc _) hI
    exact ⟨_, _, _, _, _, lst_24 hi hn (IV_12 hI) h1 h2, IV_mono (by omega) hI1⟩
  rw [if_neg h24]
  by_cases h25 : zand (sc i) 31 = 25
  · rw [if_pos h25]
    obtain ⟨r1, F1, B1, r2, F2, B2, h1, h2, hI1⟩ := p_follows (sc (i + 1)) (sc (i + 2)) (sc (i + 3)) (sc (i + 4)) (hsc _) (hsc _) (hsc _) (hsc _) hI
    exact ⟨_, _, _, _, _, lst_25 hi hn (IV_12 hI) h1 h2, IV_mono (by omega) hI1⟩
  rw [if_neg h25]
  by_cases h26 : zand (sc i) 31 = 26
  · rw [if_pos h26]
    obtain ⟨r1, F1, B1, r2, F2, B2, h1, h2, hI1⟩ := p_shape (sc (i + 1)) (sc (i + 2)) (sc (i + 3)) (sc (i + 4)) (sc (i + 5)) (sc (i + 6)) (sc (i + 7)) (sc (i + 8)) (hsc _) (hsc _) (hsc _) (hsc _) (hsc _) (hsc _) (hsc _) (hsc _) hI
    exact ⟨_, _, _, _, _, lst_26 hi hn (IV_12 hI) h1 h2, IV_mono (by omega) hI1⟩
  rw [if_neg h26]
  exact ⟨_, _, _, _, _, rfl, IV_mono (by omega) hI⟩
theorem zPure_all : zPure := by
  intro n xs hn
  obtain ⟨F, B, K, Fm, Bm, e1, e2, hI⟩ := stIV
  obtain ⟨i9, K9, F9, B9, Fm9, Bm9, e, hI9⟩ := lloop_ofI (Kr := 1099511627776) (x := 0) (sc := scz xs) (n := n) (by omega) (by omega) (Inv := fun i => IV (112 * i) 1099511627776) (fun h0 h1 h => IV_step (scz_r xs) (by omega) h0 h1 h) 5000 (i := 0) (by omega) (by omega) (by omega) hI
  exact ⟨1000000, 20, 1099511627776, 5000, 0, K, _, K9, F, Fm, F9, Fm9, B, Bm, B9, Bm9, e1, e2, start_N, e, (IV_room hI9).1, (IV_room hI9).2⟩
end
